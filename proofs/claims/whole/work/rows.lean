section
/-! ===== BEGIN words of one list among another's, by their places ===== -/
theorem goodIn_r {big : List Cond} (ws : List Cond) (ps : List Nat) (hp : ws = ps.filterMap (fun i => big[i]?)) (h : ws.all goodWord = true) : GoodIn big ws := by
  intro w hw
  have h1 := List.all_eq_true.mp h w hw
  rw [hp] at hw
  obtain ⟨i, -, hi⟩ := List.mem_filterMap.mp hw
  have hm : w ∈ big := by first | exact List.mem_of_getElem? hi | exact List.getElem?_mem hi
  exact ⟨hm, good_of_word h1⟩
theorem goodIn_app {big a b : List Cond} (ha : GoodIn big a) (hb : GoodIn big b) : GoodIn big (a ++ b) := fun w h => (List.mem_append.mp h).elim (ha w) (hb w)
theorem goodIn_ca {big a b : List Cond} {c : Cond} (ha : GoodIn big (c :: a)) (hb : GoodIn big b) : GoodIn big (c :: (a ++ b)) := fun w h => (List.mem_cons.mp h).elim (fun e => ha w (List.mem_cons.mpr (Or.inl e))) (fun h => (List.mem_append.mp h).elim (fun h => ha w (List.mem_cons.mpr (Or.inr h))) (hb w))
theorem goodIn_sub {big ws : List Cond} (hm : ∀ w ∈ ws, w ∈ big) (h : ws.all goodWord = true) : GoodIn big ws := fun w hw => ⟨hm w hw, good_of_word (List.all_eq_true.mp h w hw)⟩
/-! ===== END ===== -/
/-! ===== BEGIN printed: names, fields, word lists, decode rows ===== -/
def RX0 : String := "TideWords$Cells"
def TX0 : u_T := fun k => match k with
  | _ => ("TideWords$Cells", "cells", "[I", true)
def tyX0 : Nat → FieldType := fun k => match k with
  | _ => .array .int
abbrev wsX00 : List Cond := u_ws RX0 TX0 1
theorem nmX0 : ∀ a, a < 1 → ∀ b, b < 1 → a ≠ b → (TX0 a).2.1 ≠ (TX0 b).2.1 := by decide +kernel
theorem tyX0_ok : ∀ k, k < 1 → parseFieldDescriptor (TX0 k).2.2.1 = some (tyX0 k) := by decide +kernel
abbrev cX0_init : ByteArray := prog_2_method_1_code
def yX0_init : MethodName := ⟨RX0, "<init>", "(I)V"⟩
abbrev cX0_get : ByteArray := prog_2_method_2_code
def yX0_get : MethodName := ⟨RX0, "get", "(I)I"⟩
abbrev cX0_set : ByteArray := prog_2_method_3_code
def yX0_set : MethodName := ⟨RX0, "set", "(II)V"⟩
abbrev cX0_add : ByteArray := prog_2_method_4_code
def yX0_add : MethodName := ⟨RX0, "add", "(II)V"⟩
abbrev cX0_sum : ByteArray := prog_2_method_5_code
def yX0_sum : MethodName := ⟨RX0, "sum", "()I"⟩
abbrev cX0_copyFrom : ByteArray := prog_2_method_6_code
def yX0_copyFrom : MethodName := ⟨RX0, "copyFrom", "(LTideWords$Cells;)V"⟩
def RX1 : String := "TideWords$Gates"
def TX1 : u_T := fun k => match k with
  | 0 => ("TideWords$Gates", "sides", "LTideWords$Cells;", true)
  | 1 => ("TideWords$Gates", "slacks", "LTideWords$Cells;", true)
  | 2 => ("TideWords$Gates", "ways", "LTideWords$Cells;", true)
  | 3 => ("TideWords$Gates", "shuts", "LTideWords$Cells;", true)
  | 4 => ("TideWords$Gates", "held", "LTideWords$Cells;", true)
  | 5 => ("TideWords$Gates", "lettersDone", "LTideWords$Cells;", true)
  | 6 => ("TideWords$Gates", "passedWords", "LTideWords$Cells;", true)
  | _ => ("TideWords$Gates", "vainLetters", "LTideWords$Cells;", true)
def tyX1 : Nat → FieldType := fun k => match k with
  | 0 => .object "TideWords$Cells"
  | 1 => .object "TideWords$Cells"
  | 2 => .object "TideWords$Cells"
  | 3 => .object "TideWords$Cells"
  | 4 => .object "TideWords$Cells"
  | 5 => .object "TideWords$Cells"
  | 6 => .object "TideWords$Cells"
  | _ => .object "TideWords$Cells"
abbrev wsX10 : List Cond := u_ws RX1 TX1 8
theorem nmX1 : ∀ a, a < 8 → ∀ b, b < 8 → a ≠ b → (TX1 a).2.1 ≠ (TX1 b).2.1 := by decide +kernel
theorem tyX1_ok : ∀ k, k < 8 → parseFieldDescriptor (TX1 k).2.2.1 = some (tyX1 k) := by decide +kernel
abbrev cX1_init : ByteArray := prog_3_method_1_code
def yX1_init : MethodName := ⟨RX1, "<init>", "()V"⟩
abbrev cX1_change : ByteArray := prog_3_method_2_code
def yX1_change : MethodName := ⟨RX1, "change", "(IIII)V"⟩
abbrev cX1_isShut : ByteArray := prog_3_method_3_code
def yX1_isShut : MethodName := ⟨RX1, "isShut", "(I)Z"⟩
abbrev cX1_isOpenAcross : ByteArray := prog_3_method_4_code
def yX1_isOpenAcross : MethodName := ⟨RX1, "isOpenAcross", "(II)Z"⟩
abbrev cX1_hasWord : ByteArray := prog_3_method_5_code
def yX1_hasWord : MethodName := ⟨RX1, "hasWord", "(I)Z"⟩
abbrev cX1_release : ByteArray := prog_3_method_6_code
def yX1_release : MethodName := ⟨RX1, "release", "(I)V"⟩
abbrev cX1_wordsInside : ByteArray := prog_3_method_7_code
def yX1_wordsInside : MethodName := ⟨RX1, "wordsInside", "()I"⟩
abbrev cX1_gateWith : ByteArray := prog_3_method_8_code
def yX1_gateWith : MethodName := ⟨RX1, "gateWith", "(I)I"⟩
abbrev cX1_copyFrom : ByteArray := prog_3_method_9_code
def yX1_copyFrom : MethodName := ⟨RX1, "copyFrom", "(LTideWords$Gates;)V"⟩
def RX2 : String := "TideWords$Pad"
def TX2 : u_T := fun k => match k with
  | 0 => ("TideWords$Pad", "codes", "LTideWords$Cells;", true)
  | _ => ("TideWords$Pad", "length", "I", false)
def tyX2 : Nat → FieldType := fun k => match k with
  | 0 => .object "TideWords$Cells"
  | _ => .int
abbrev wsX20 : List Cond := u_ws RX2 TX2 2
theorem nmX2 : ∀ a, a < 2 → ∀ b, b < 2 → a ≠ b → (TX2 a).2.1 ≠ (TX2 b).2.1 := by decide +kernel
theorem tyX2_ok : ∀ k, k < 2 → parseFieldDescriptor (TX2 k).2.2.1 = some (tyX2 k) := by decide +kernel
abbrev cX2_init : ByteArray := prog_4_method_1_code
def yX2_init : MethodName := ⟨RX2, "<init>", "()V"⟩
abbrev cX2_append : ByteArray := prog_4_method_2_code
def yX2_append : MethodName := ⟨RX2, "append", "(I)V"⟩
abbrev cX2_wordsInside : ByteArray := prog_4_method_3_code
def yX2_wordsInside : MethodName := ⟨RX2, "wordsInside", "()I"⟩
abbrev cX2_faultPlace : ByteArray := prog_4_method_4_code
def yX2_faultPlace : MethodName := ⟨RX2, "faultPlace", "()I"⟩
def RX3 : String := "TideWords$Tides"
def TX3 : u_T := fun k => match k with
  | 0 => ("TideWords$Tides", "means", "LTideWords$Cells;", true)
  | 1 => ("TideWords$Tides", "swings", "LTideWords$Cells;", true)
  | 2 => ("TideWords$Tides", "periods", "LTideWords$Cells;", true)
  | _ => ("TideWords$Tides", "lies", "LTideWords$Cells;", true)
def tyX3 : Nat → FieldType := fun k => match k with
  | 0 => .object "TideWords$Cells"
  | 1 => .object "TideWords$Cells"
  | 2 => .object "TideWords$Cells"
  | _ => .object "TideWords$Cells"
abbrev wsX30 : List Cond := u_ws RX3 TX3 4
theorem nmX3 : ∀ a, a < 4 → ∀ b, b < 4 → a ≠ b → (TX3 a).2.1 ≠ (TX3 b).2.1 := by decide +kernel
theorem tyX3_ok : ∀ k, k < 4 → parseFieldDescriptor (TX3 k).2.2.1 = some (tyX3 k) := by decide +kernel
abbrev cX3_init : ByteArray := prog_5_method_1_code
def yX3_init : MethodName := ⟨RX3, "<init>", "()V"⟩
abbrev cX3_change : ByteArray := prog_5_method_2_code
def yX3_change : MethodName := ⟨RX3, "change", "(IIII)V"⟩
abbrev cX3_levelAt : ByteArray := prog_5_method_3_code
def yX3_levelAt : MethodName := ⟨RX3, "levelAt", "(II)I"⟩
abbrev cX3_toldAt : ByteArray := prog_5_method_4_code
def yX3_toldAt : MethodName := ⟨RX3, "toldAt", "(II)I"⟩
abbrev cX3_gapAt : ByteArray := prog_5_method_5_code
def yX3_gapAt : MethodName := ⟨RX3, "gapAt", "(I)I"⟩
abbrev cX3_copyFrom : ByteArray := prog_5_method_6_code
def yX3_copyFrom : MethodName := ⟨RX3, "copyFrom", "(LTideWords$Tides;)V"⟩
def RX4 : String := "TideWords$Words"
def TX4 : u_T := fun k => match k with
  | 0 => ("TideWords$Words", "lengths", "LTideWords$Cells;", true)
  | 1 => ("TideWords$Words", "letters", "LTideWords$Cells;", true)
  | 2 => ("TideWords$Words", "passedSteps", "LTideWords$Cells;", true)
  | 3 => ("TideWords$Words", "passedGates", "LTideWords$Cells;", true)
  | 4 => ("TideWords$Words", "timesBack", "LTideWords$Cells;", true)
  | 5 => ("TideWords$Words", "rows", "LTideWords$Cells;", true)
  | 6 => ("TideWords$Words", "rowLengths", "LTideWords$Cells;", true)
  | _ => ("TideWords$Words", "total", "I", false)
def tyX4 : Nat → FieldType := fun k => match k with
  | 0 => .object "TideWords$Cells"
  | 1 => .object "TideWords$Cells"
  | 2 => .object "TideWords$Cells"
  | 3 => .object "TideWords$Cells"
  | 4 => .object "TideWords$Cells"
  | 5 => .object "TideWords$Cells"
  | 6 => .object "TideWords$Cells"
  | _ => .int
abbrev wsX40 : List Cond := u_ws RX4 TX4 8
theorem nmX4 : ∀ a, a < 8 → ∀ b, b < 8 → a ≠ b → (TX4 a).2.1 ≠ (TX4 b).2.1 := by decide +kernel
theorem tyX4_ok : ∀ k, k < 8 → parseFieldDescriptor (TX4 k).2.2.1 = some (tyX4 k) := by decide +kernel
abbrev cX4_init : ByteArray := prog_6_method_1_code
def yX4_init : MethodName := ⟨RX4, "<init>", "()V"⟩
abbrev cX4_startWord : ByteArray := prog_6_method_2_code
def yX4_startWord : MethodName := ⟨RX4, "startWord", "(I)V"⟩
abbrev cX4_addLetter : ByteArray := prog_6_method_3_code
def yX4_addLetter : MethodName := ⟨RX4, "addLetter", "(I)V"⟩
abbrev cX4_letterOf : ByteArray := prog_6_method_4_code
def yX4_letterOf : MethodName := ⟨RX4, "letterOf", "(II)I"⟩
abbrev cX4_hasPassed : ByteArray := prog_6_method_5_code
def yX4_hasPassed : MethodName := ⟨RX4, "hasPassed", "(I)Z"⟩
abbrev cX4_markPassed : ByteArray := prog_6_method_6_code
def yX4_markPassed : MethodName := ⟨RX4, "markPassed", "(III)V"⟩
abbrev cX4_wordAt : ByteArray := prog_6_method_7_code
def yX4_wordAt : MethodName := ⟨RX4, "wordAt", "(II)I"⟩
abbrev cX4_placeIn : ByteArray := prog_6_method_8_code
def yX4_placeIn : MethodName := ⟨RX4, "placeIn", "(II)I"⟩
abbrev cX4_placeOf : ByteArray := prog_6_method_9_code
def yX4_placeOf : MethodName := ⟨RX4, "placeOf", "(I)I"⟩
abbrev cX4_lettersInRow : ByteArray := prog_6_method_10_code
def yX4_lettersInRow : MethodName := ⟨RX4, "lettersInRow", "(I)I"⟩
abbrev cX4_waitingInRow : ByteArray := prog_6_method_11_code
def yX4_waitingInRow : MethodName := ⟨RX4, "waitingInRow", "(I)I"⟩
abbrev cX4_addLast : ByteArray := prog_6_method_12_code
def yX4_addLast : MethodName := ⟨RX4, "addLast", "(II)V"⟩
abbrev cX4_addFirst : ByteArray := prog_6_method_13_code
def yX4_addFirst : MethodName := ⟨RX4, "addFirst", "(II)V"⟩
abbrev cX4_takeWaiting : ByteArray := prog_6_method_14_code
def yX4_takeWaiting : MethodName := ⟨RX4, "takeWaiting", "(I)I"⟩
abbrev cX4_removeFrom : ByteArray := prog_6_method_15_code
def yX4_removeFrom : MethodName := ⟨RX4, "removeFrom", "(II)V"⟩
abbrev cX4_copyFrom : ByteArray := prog_6_method_16_code
def yX4_copyFrom : MethodName := ⟨RX4, "copyFrom", "(LTideWords$Words;)V"⟩
def RX5 : String := "TideWords$World"
def TX5 : u_T := fun k => match k with
  | 0 => ("TideWords$World", "tides", "LTideWords$Tides;", true)
  | 1 => ("TideWords$World", "gates", "LTideWords$Gates;", true)
  | 2 => ("TideWords$World", "words", "LTideWords$Words;", true)
  | 3 => ("TideWords$World", "steps", "I", false)
  | 4 => ("TideWords$World", "letters", "I", false)
  | _ => ("TideWords$World", "idleSteps", "I", false)
def tyX5 : Nat → FieldType := fun k => match k with
  | 0 => .object "TideWords$Tides"
  | 1 => .object "TideWords$Gates"
  | 2 => .object "TideWords$Words"
  | 3 => .int
  | 4 => .int
  | _ => .int
abbrev wsX50 : List Cond := u_ws RX5 TX5 6
theorem nmX5 : ∀ a, a < 6 → ∀ b, b < 6 → a ≠ b → (TX5 a).2.1 ≠ (TX5 b).2.1 := by decide +kernel
theorem tyX5_ok : ∀ k, k < 6 → parseFieldDescriptor (TX5 k).2.2.1 = some (tyX5 k) := by decide +kernel
abbrev cX5_init : ByteArray := prog_7_method_1_code
def yX5_init : MethodName := ⟨RX5, "<init>", "()V"⟩
abbrev cX5_isOpenAt : ByteArray := prog_7_method_2_code
def yX5_isOpenAt : MethodName := ⟨RX5, "isOpenAt", "(II)Z"⟩
abbrev cX5_openMask : ByteArray := prog_7_method_3_code
def yX5_openMask : MethodName := ⟨RX5, "openMask", "()I"⟩
abbrev cX5_stepsUntilOpen : ByteArray := prog_7_method_4_code
def yX5_stepsUntilOpen : MethodName := ⟨RX5, "stepsUntilOpen", "(I)I"⟩
abbrev cX5_openStepsFrom : ByteArray := prog_7_method_5_code
def yX5_openStepsFrom : MethodName := ⟨RX5, "openStepsFrom", "(II)I"⟩
abbrev cX5_whereIs : ByteArray := prog_7_method_6_code
def yX5_whereIs : MethodName := ⟨RX5, "whereIs", "(I)I"⟩
abbrev cX5_makeSteps : ByteArray := prog_7_method_7_code
def yX5_makeSteps : MethodName := ⟨RX5, "makeSteps", "(I)V"⟩
abbrev cX5_stepAcross : ByteArray := prog_7_method_8_code
def yX5_stepAcross : MethodName := ⟨RX5, "stepAcross", "(I)V"⟩
abbrev cX5_takeWord : ByteArray := prog_7_method_9_code
def yX5_takeWord : MethodName := ⟨RX5, "takeWord", "(I)V"⟩
abbrev cX5_passLetter : ByteArray := prog_7_method_10_code
def yX5_passLetter : MethodName := ⟨RX5, "passLetter", "(I)V"⟩
abbrev cX5_sendBack : ByteArray := prog_7_method_11_code
def yX5_sendBack : MethodName := ⟨RX5, "sendBack", "(I)V"⟩
abbrev cX5_tally : ByteArray := prog_7_method_12_code
def yX5_tally : MethodName := ⟨RX5, "tally", "(I)I"⟩
abbrev cX5_copyFrom : ByteArray := prog_7_method_13_code
def yX5_copyFrom : MethodName := ⟨RX5, "copyFrom", "(LTideWords$World;)V"⟩
def RX6 : String := "TideWords"
def TX6 : u_T := fun k => match k with
  | 0 => ("TideWords", "now", "LTideWords$World;", true)
  | 1 => ("TideWords", "trial", "LTideWords$World;", true)
  | 2 => ("TideWords", "pad", "LTideWords$Pad;", true)
  | 3 => ("TideWords", "history", "[LTideWords$World;", true)
  | 4 => ("TideWords", "slots", "[LTideWords$World;", true)
  | 5 => ("TideWords", "isSaved", "LTideWords$Cells;", true)
  | 6 => ("TideWords", "gapsAhead", "LTideWords$Cells;", true)
  | 7 => ("TideWords", "nextRecord", "I", false)
  | _ => ("TideWords", "records", "I", false)
def tyX6 : Nat → FieldType := fun k => match k with
  | 0 => .object "TideWords$World"
  | 1 => .object "TideWords$World"
  | 2 => .object "TideWords$Pad"
  | 3 => .array (.object "TideWords$World")
  | 4 => .array (.object "TideWords$World")
  | 5 => .object "TideWords$Cells"
  | 6 => .object "TideWords$Cells"
  | 7 => .int
  | _ => .int
abbrev wsX60 : List Cond := u_ws RX6 TX6 9
theorem nmX6 : ∀ a, a < 9 → ∀ b, b < 9 → a ≠ b → (TX6 a).2.1 ≠ (TX6 b).2.1 := by decide +kernel
theorem tyX6_ok : ∀ k, k < 9 → parseFieldDescriptor (TX6 k).2.2.1 = some (tyX6 k) := by decide +kernel
abbrev cX6_init : ByteArray := prog_1_method_1_code
def yX6_init : MethodName := ⟨RX6, "<init>", "()V"⟩
abbrev cX6_tide : ByteArray := prog_1_method_2_code
def yX6_tide : MethodName := ⟨RX6, "tide", "(IIII)I"⟩
abbrev cX6_gauge : ByteArray := prog_1_method_3_code
def yX6_gauge : MethodName := ⟨RX6, "gauge", "(II)I"⟩
abbrev cX6_gate : ByteArray := prog_1_method_4_code
def yX6_gate : MethodName := ⟨RX6, "gate", "(IIII)I"⟩
abbrev cX6_shut : ByteArray := prog_1_method_5_code
def yX6_shut : MethodName := ⟨RX6, "shut", "(IZ)I"⟩
abbrev cX6_put : ByteArray := prog_1_method_6_code
def yX6_put : MethodName := ⟨RX6, "put", "(I)I"⟩
abbrev cX6_run : ByteArray := prog_1_method_7_code
def yX6_run : MethodName := ⟨RX6, "run", "(I)I"⟩
abbrev cX6_store : ByteArray := prog_1_method_8_code
def yX6_store : MethodName := ⟨RX6, "store", "(II)I"⟩
abbrev cX6_gateOf : ByteArray := prog_1_method_9_code
def yX6_gateOf : MethodName := ⟨RX6, "gateOf", "(II)I"⟩
abbrev cX6_word : ByteArray := prog_1_method_10_code
def yX6_word : MethodName := ⟨RX6, "word", "(II)I"⟩
abbrev cX6_at : ByteArray := prog_1_method_11_code
def yX6_at : MethodName := ⟨RX6, "at", "(II)I"⟩
abbrev cX6_count : ByteArray := prog_1_method_12_code
def yX6_count : MethodName := ⟨RX6, "count", "(I)I"⟩
abbrev cX6_untilOpen : ByteArray := prog_1_method_13_code
def yX6_untilOpen : MethodName := ⟨RX6, "untilOpen", "(I)I"⟩
abbrev cX6_openFor : ByteArray := prog_1_method_14_code
def yX6_openFor : MethodName := ⟨RX6, "openFor", "(I)I"⟩
abbrev cX6_untilPassed : ByteArray := prog_1_method_15_code
def yX6_untilPassed : MethodName := ⟨RX6, "untilPassed", "(I)I"⟩
abbrev cX6_ifRun : ByteArray := prog_1_method_16_code
def yX6_ifRun : MethodName := ⟨RX6, "ifRun", "(II)I"⟩
abbrev cX6_leastSlack : ByteArray := prog_1_method_17_code
def yX6_leastSlack : MethodName := ⟨RX6, "leastSlack", "(II)I"⟩
abbrev cX6_bestLie : ByteArray := prog_1_method_18_code
def yX6_bestLie : MethodName := ⟨RX6, "bestLie", "(II)I"⟩
abbrev cX6_write : ByteArray := prog_1_method_19_code
def yX6_write : MethodName := ⟨RX6, "write", "(J)I"⟩
abbrev cX6_wipe : ByteArray := prog_1_method_20_code
def yX6_wipe : MethodName := ⟨RX6, "wipe", "()I"⟩
abbrev cX6_fault : ByteArray := prog_1_method_21_code
def yX6_fault : MethodName := ⟨RX6, "fault", "()I"⟩
abbrev cX6_undo : ByteArray := prog_1_method_22_code
def yX6_undo : MethodName := ⟨RX6, "undo", "()I"⟩
abbrev cX6_save : ByteArray := prog_1_method_23_code
def yX6_save : MethodName := ⟨RX6, "save", "(I)I"⟩
abbrev cX6_restore : ByteArray := prog_1_method_24_code
def yX6_restore : MethodName := ⟨RX6, "restore", "(I)I"⟩
abbrev cX6_isWithin : ByteArray := prog_1_method_25_code
def yX6_isWithin : MethodName := ⟨RX6, "isWithin", "(III)Z"⟩
abbrev cX6_isStore : ByteArray := prog_1_method_26_code
def yX6_isStore : MethodName := ⟨RX6, "isStore", "(I)Z"⟩
abbrev cX6_isGate : ByteArray := prog_1_method_27_code
def yX6_isGate : MethodName := ⟨RX6, "isGate", "(I)Z"⟩
abbrev cX6_isWord : ByteArray := prog_1_method_28_code
def yX6_isWord : MethodName := ⟨RX6, "isWord", "(I)Z"⟩
abbrev cX6_worldIn : ByteArray := prog_1_method_29_code
def yX6_worldIn : MethodName := ⟨RX6, "worldIn", "([LTideWords$World;I)LTideWords$World;"⟩
abbrev cX6_copyInto : ByteArray := prog_1_method_30_code
def yX6_copyInto : MethodName := ⟨RX6, "copyInto", "([LTideWords$World;I)V"⟩
abbrev cX6_record : ByteArray := prog_1_method_31_code
def yX6_record : MethodName := ⟨RX6, "record", "()V"⟩
abbrev cX6_bringWords : ByteArray := prog_1_method_32_code
def yX6_bringWords : MethodName := ⟨RX6, "bringWords", "(I)V"⟩
abbrev cX6_codesIn : ByteArray := prog_1_method_33_code
def yX6_codesIn : MethodName := ⟨RX6, "codesIn", "(J)I"⟩
abbrev cX6_codeAt : ByteArray := prog_1_method_34_code
def yX6_codeAt : MethodName := ⟨RX6, "codeAt", "(JI)I"⟩
abbrev cX6_findGapsAhead : ByteArray := prog_1_method_35_code
def yX6_findGapsAhead : MethodName := ⟨RX6, "findGapsAhead", "()V"⟩
abbrev cX6_hasGapAhead : ByteArray := prog_1_method_36_code
def yX6_hasGapAhead : MethodName := ⟨RX6, "hasGapAhead", "(I)Z"⟩
abbrev cX6_wordsPassingWith : ByteArray := prog_1_method_37_code
def yX6_wordsPassingWith : MethodName := ⟨RX6, "wordsPassingWith", "(II)I"⟩
abbrev cX6_openStepsWith : ByteArray := prog_1_method_38_code
def yX6_openStepsWith : MethodName := ⟨RX6, "openStepsWith", "(III)I"⟩
def RX7 : String := "TideWordsModel"
def TX7 : u_T := fun k => match k with
  | 0 => ("TideWordsModel", "s", "[I", true)
  | 1 => ("TideWordsModel", "aside", "[I", true)
  | 2 => ("TideWordsModel", "history", "[I", true)
  | 3 => ("TideWordsModel", "kept", "I", false)
  | 4 => ("TideWordsModel", "slots", "[I", true)
  | 5 => ("TideWordsModel", "isSaved", "[Z", true)
  | 6 => ("TideWordsModel", "pad", "[I", true)
  | _ => ("TideWordsModel", "length", "I", false)
def tyX7 : Nat → FieldType := fun k => match k with
  | 0 => .array .int
  | 1 => .array .int
  | 2 => .array .int
  | 3 => .int
  | 4 => .array .int
  | 5 => .array .boolean
  | 6 => .array .int
  | _ => .int
abbrev wsX70 : List Cond := u_ws RX7 TX7 8
theorem nmX7 : ∀ a, a < 8 → ∀ b, b < 8 → a ≠ b → (TX7 a).2.1 ≠ (TX7 b).2.1 := by decide +kernel
theorem tyX7_ok : ∀ k, k < 8 → parseFieldDescriptor (TX7 k).2.2.1 = some (tyX7 k) := by decide +kernel
abbrev cX7_init : ByteArray := prog_9_method_1_code
def yX7_init : MethodName := ⟨RX7, "<init>", "()V"⟩
abbrev cX7_in : ByteArray := prog_9_method_3_code
def yX7_in : MethodName := ⟨RX7, "in", "(III)Z"⟩
abbrev cX7_isStore : ByteArray := prog_9_method_4_code
def yX7_isStore : MethodName := ⟨RX7, "isStore", "(I)Z"⟩
abbrev cX7_isGate : ByteArray := prog_9_method_5_code
def yX7_isGate : MethodName := ⟨RX7, "isGate", "(I)Z"⟩
abbrev cX7_isWord : ByteArray := prog_9_method_6_code
def yX7_isWord : MethodName := ⟨RX7, "isWord", "(I)Z"⟩
abbrev cX7_ofStore : ByteArray := prog_9_method_7_code
def yX7_ofStore : MethodName := ⟨RX7, "ofStore", "(II)I"⟩
abbrev cX7_ofGate : ByteArray := prog_9_method_8_code
def yX7_ofGate : MethodName := ⟨RX7, "ofGate", "(II)I"⟩
abbrev cX7_ofWord : ByteArray := prog_9_method_9_code
def yX7_ofWord : MethodName := ⟨RX7, "ofWord", "(II)I"⟩
abbrev cX7_inRow : ByteArray := prog_9_method_10_code
def yX7_inRow : MethodName := ⟨RX7, "inRow", "(II)I"⟩
abbrev cX7_record : ByteArray := prog_9_method_11_code
def yX7_record : MethodName := ⟨RX7, "record", "()V"⟩
abbrev cX7_putAside : ByteArray := prog_9_method_12_code
def yX7_putAside : MethodName := ⟨RX7, "putAside", "()V"⟩
abbrev cX7_putBack : ByteArray := prog_9_method_13_code
def yX7_putBack : MethodName := ⟨RX7, "putBack", "()V"⟩
abbrev cX7_level : ByteArray := prog_9_method_14_code
def yX7_level : MethodName := ⟨RX7, "level", "(II)I"⟩
abbrev cX7_off : ByteArray := prog_9_method_15_code
def yX7_off : MethodName := ⟨RX7, "off", "(I)I"⟩
abbrev cX7_isOpen : ByteArray := prog_9_method_16_code
def yX7_isOpen : MethodName := ⟨RX7, "isOpen", "(II)Z"⟩
abbrev cX7_openNow : ByteArray := prog_9_method_17_code
def yX7_openNow : MethodName := ⟨RX7, "openNow", "()I"⟩
abbrev cX7_lettersOf : ByteArray := prog_9_method_18_code
def yX7_lettersOf : MethodName := ⟨RX7, "lettersOf", "(I)I"⟩
abbrev cX7_letterOf : ByteArray := prog_9_method_19_code
def yX7_letterOf : MethodName := ⟨RX7, "letterOf", "(II)I"⟩
abbrev cX7_hasPassed : ByteArray := prog_9_method_20_code
def yX7_hasPassed : MethodName := ⟨RX7, "hasPassed", "(I)Z"⟩
abbrev cX7_comes : ByteArray := prog_9_method_21_code
def yX7_comes : MethodName := ⟨RX7, "comes", "(II)V"⟩
abbrev cX7_goesBack : ByteArray := prog_9_method_22_code
def yX7_goesBack : MethodName := ⟨RX7, "goesBack", "(II)V"⟩
abbrev cX7_takes : ByteArray := prog_9_method_23_code
def yX7_takes : MethodName := ⟨RX7, "takes", "(I)I"⟩
abbrev cX7_acts : ByteArray := prog_9_method_24_code
def yX7_acts : MethodName := ⟨RX7, "acts", "(I)V"⟩
abbrev cX7_step : ByteArray := prog_9_method_25_code
def yX7_step : MethodName := ⟨RX7, "step", "()V"⟩
abbrev cX7_runs : ByteArray := prog_9_method_26_code
def yX7_runs : MethodName := ⟨RX7, "runs", "(I)V"⟩
abbrev cX7_passedWords : ByteArray := prog_9_method_27_code
def yX7_passedWords : MethodName := ⟨RX7, "passedWords", "()I"⟩
abbrev cX7_backs : ByteArray := prog_9_method_28_code
def yX7_backs : MethodName := ⟨RX7, "backs", "()I"⟩
abbrev cX7_tide : ByteArray := prog_9_method_29_code
def yX7_tide : MethodName := ⟨RX7, "tide", "(IIII)I"⟩
abbrev cX7_lays : ByteArray := prog_9_method_30_code
def yX7_lays : MethodName := ⟨RX7, "lays", "(II)I"⟩
abbrev cX7_gauge : ByteArray := prog_9_method_31_code
def yX7_gauge : MethodName := ⟨RX7, "gauge", "(II)I"⟩
abbrev cX7_gate : ByteArray := prog_9_method_32_code
def yX7_gate : MethodName := ⟨RX7, "gate", "(IIII)I"⟩
abbrev cX7_shut : ByteArray := prog_9_method_33_code
def yX7_shut : MethodName := ⟨RX7, "shut", "(IZ)I"⟩
abbrev cX7_run : ByteArray := prog_9_method_34_code
def yX7_run : MethodName := ⟨RX7, "run", "(I)I"⟩
abbrev cX7_sumOf : ByteArray := prog_9_method_35_code
def yX7_sumOf : MethodName := ⟨RX7, "sumOf", "(II)I"⟩
abbrev cX7_store : ByteArray := prog_9_method_36_code
def yX7_store : MethodName := ⟨RX7, "store", "(II)I"⟩
abbrev cX7_gateOf : ByteArray := prog_9_method_37_code
def yX7_gateOf : MethodName := ⟨RX7, "gateOf", "(II)I"⟩
abbrev cX7_whereIs : ByteArray := prog_9_method_38_code
def yX7_whereIs : MethodName := ⟨RX7, "whereIs", "(I)I"⟩
abbrev cX7_word : ByteArray := prog_9_method_39_code
def yX7_word : MethodName := ⟨RX7, "word", "(II)I"⟩
abbrev cX7_at : ByteArray := prog_9_method_40_code
def yX7_at : MethodName := ⟨RX7, "at", "(II)I"⟩
abbrev cX7_inGates : ByteArray := prog_9_method_41_code
def yX7_inGates : MethodName := ⟨RX7, "inGates", "()I"⟩
abbrev cX7_count : ByteArray := prog_9_method_42_code
def yX7_count : MethodName := ⟨RX7, "count", "(I)I"⟩
abbrev cX7_opensIn : ByteArray := prog_9_method_43_code
def yX7_opensIn : MethodName := ⟨RX7, "opensIn", "(I)I"⟩
abbrev cX7_untilOpen : ByteArray := prog_9_method_44_code
def yX7_untilOpen : MethodName := ⟨RX7, "untilOpen", "(I)I"⟩
abbrev cX7_openFor : ByteArray := prog_9_method_45_code
def yX7_openFor : MethodName := ⟨RX7, "openFor", "(I)I"⟩
abbrev cX7_untilPassed : ByteArray := prog_9_method_46_code
def yX7_untilPassed : MethodName := ⟨RX7, "untilPassed", "(I)I"⟩
abbrev cX7_ifRun : ByteArray := prog_9_method_47_code
def yX7_ifRun : MethodName := ⟨RX7, "ifRun", "(II)I"⟩
abbrev cX7_leastSlack : ByteArray := prog_9_method_48_code
def yX7_leastSlack : MethodName := ⟨RX7, "leastSlack", "(II)I"⟩
abbrev cX7_opensWith : ByteArray := prog_9_method_49_code
def yX7_opensWith : MethodName := ⟨RX7, "opensWith", "(III)I"⟩
abbrev cX7_bestLie : ByteArray := prog_9_method_50_code
def yX7_bestLie : MethodName := ⟨RX7, "bestLie", "(II)I"⟩
abbrev cX7_write : ByteArray := prog_9_method_51_code
def yX7_write : MethodName := ⟨RX7, "write", "(J)I"⟩
abbrev cX7_wipe : ByteArray := prog_9_method_52_code
def yX7_wipe : MethodName := ⟨RX7, "wipe", "()I"⟩
abbrev cX7_behind : ByteArray := prog_9_method_53_code
def yX7_behind : MethodName := ⟨RX7, "behind", "(I)I"⟩
abbrev cX7_wrong : ByteArray := prog_9_method_54_code
def yX7_wrong : MethodName := ⟨RX7, "wrong", "()I"⟩
abbrev cX7_fault : ByteArray := prog_9_method_55_code
def yX7_fault : MethodName := ⟨RX7, "fault", "()I"⟩
abbrev cX7_told : ByteArray := prog_9_method_56_code
def yX7_told : MethodName := ⟨RX7, "told", "()I"⟩
abbrev cX7_put : ByteArray := prog_9_method_57_code
def yX7_put : MethodName := ⟨RX7, "put", "(I)I"⟩
abbrev cX7_undo : ByteArray := prog_9_method_58_code
def yX7_undo : MethodName := ⟨RX7, "undo", "()I"⟩
abbrev cX7_save : ByteArray := prog_9_method_59_code
def yX7_save : MethodName := ⟨RX7, "save", "(I)I"⟩
abbrev cX7_restore : ByteArray := prog_9_method_60_code
def yX7_restore : MethodName := ⟨RX7, "restore", "(I)I"⟩
def RJ9 : String := "java/lang/Math"
def TJ9 : u_T := fun k => match k with
  | _ => ("", "", "", false)
def tyJ9 : Nat → FieldType := fun k => match k with
  | _ => .int
abbrev wsJ90 : List Cond := u_ws RJ9 TJ9 0
theorem nmJ9 : ∀ a, a < 0 → ∀ b, b < 0 → a ≠ b → (TJ9 a).2.1 ≠ (TJ9 b).2.1 := by decide +kernel
theorem tyJ9_ok : ∀ k, k < 0 → parseFieldDescriptor (TJ9 k).2.2.1 = some (tyJ9 k) := by decide +kernel
abbrev cJ9_abs_0f7a4 : ByteArray := prog_10_method_59_code
def yJ9_abs_0f7a4 : MethodName := ⟨RJ9, "abs", "(I)I"⟩
abbrev cJ9_max_7cf53 : ByteArray := prog_10_method_65_code
def yJ9_max_7cf53 : MethodName := ⟨RJ9, "max", "(II)I"⟩
abbrev cJ9_min_7cf53 : ByteArray := prog_10_method_69_code
def yJ9_min_7cf53 : MethodName := ⟨RJ9, "min", "(II)I"⟩
def RJ10 : String := "java/lang/System"
def TJ10 : u_T := fun k => match k with
  | _ => ("", "", "", false)
def tyJ10 : Nat → FieldType := fun k => match k with
  | _ => .int
abbrev wsJ100 : List Cond := u_ws RJ10 TJ10 0
theorem nmJ10 : ∀ a, a < 0 → ∀ b, b < 0 → a ≠ b → (TJ10 a).2.1 ≠ (TJ10 b).2.1 := by decide +kernel
theorem tyJ10_ok : ∀ k, k < 0 → parseFieldDescriptor (TJ10 k).2.2.1 = some (tyJ10 k) := by decide +kernel
def wsX0_init : List Cond := .code yX0_init cX0_init 2 none :: ([.methodLink RX0 1 objectInit, .instanceMethod objectInit, .code objectInit ⟨#[0xb1]⟩ 1 none, .methodLink RX0 7 Lib.Math.max.name, .static Lib.Math.max.name, .initialized "java/lang/Math", .code Lib.Math.max.name Lib.Math.max.code 2 (some .int), .arrayClass .int, .fieldLink RX0 13 "TideWords$Cells" "cells" "[I"] ++ wsX00)
def wsX0_get : List Cond := .code yX0_get cX0_get 2 (some .int) :: ([.fieldLink RX0 13 "TideWords$Cells" "cells" "[I"] ++ wsX00)
def wsX0_set : List Cond := .code yX0_set cX0_set 3 none :: ([.fieldLink RX0 13 "TideWords$Cells" "cells" "[I"] ++ wsX00)
def wsX0_add : List Cond := .code yX0_add cX0_add 3 none :: ([.fieldLink RX0 13 "TideWords$Cells" "cells" "[I"] ++ wsX00)
def wsX0_sum : List Cond := .code yX0_sum cX0_sum 3 (some .int) :: ([.fieldLink RX0 13 "TideWords$Cells" "cells" "[I"] ++ wsX00)
def wsX0_copyFrom : List Cond := .code yX0_copyFrom cX0_copyFrom 2 none :: ([.fieldLink RX0 13 "TideWords$Cells" "cells" "[I", .methodLink RX0 19 Lib.Math.min.name, .static Lib.Math.min.name, .initialized "java/lang/Math", .code Lib.Math.min.name Lib.Math.min.code 2 (some .int), .methodLink RX0 22 arraycopyName, .native arraycopyName, .static arraycopyName, .initialized "java/lang/System"] ++ wsX00)
def wsX1_change : List Cond := .code yX1_change cX1_change 5 none :: ([.fieldLink RX1 14 "TideWords$Gates" "sides" "LTideWords$Cells;", .fieldLink RX1 20 "TideWords$Gates" "slacks" "LTideWords$Cells;", .fieldLink RX1 23 "TideWords$Gates" "ways" "LTideWords$Cells;", .methodLink RX1 45 yX0_set, .instanceMethod yX0_set, .selects RX0 yX0_set yX0_set, .initialized RX0, .code yX0_set cX0_set 3 none, .fieldLink RX0 13 "TideWords$Cells" "cells" "[I"] ++ wsX10 ++ wsX00)
def wsX1_init_r1 : List Cond := [Cond.methodLink RX1 3 objectInit, Cond.instanceMethod objectInit, Cond.code objectInit ⟨#[0xb1]⟩ 1 none, Cond.classLink RX1 9 RX0, Cond.instantiable RX0 1, Cond.initialized RX0, Cond.fieldLink RX1 14 "TideWords$Gates" "sides" "LTideWords$Cells;", Cond.fieldLink RX1 20 "TideWords$Gates" "slacks" "LTideWords$Cells;", Cond.fieldLink RX1 23 "TideWords$Gates" "ways" "LTideWords$Cells;", Cond.fieldLink RX1 26 "TideWords$Gates" "shuts" "LTideWords$Cells;", Cond.fieldLink RX1 29 "TideWords$Gates" "held" "LTideWords$Cells;", Cond.fieldLink RX1 32 "TideWords$Gates" "lettersDone" "LTideWords$Cells;", Cond.fieldLink RX1 35 "TideWords$Gates" "passedWords" "LTideWords$Cells;", Cond.fieldLink RX1 38 "TideWords$Gates" "vainLetters" "LTideWords$Cells;", Cond.methodLink RX1 11 yX0_init, Cond.instanceMethod yX0_init, Cond.code yX0_init cX0_init 2 none, Cond.methodLink RX0 1 objectInit, Cond.methodLink RX0 7 Lib.Math.max.name, Cond.static Lib.Math.max.name, Cond.initialized "java/lang/Math", Cond.code Lib.Math.max.name Lib.Math.max.code 2 (some .int), Cond.arrayClass .int, Cond.fieldLink RX0 13 "TideWords$Cells" "cells" "[I"]
def wsX1_init_r2 : List Cond := [Cond.methodLink RX1 41 yX1_change, Cond.instanceMethod yX1_change, Cond.selects RX1 yX1_change yX1_change, Cond.initialized RX1, Cond.code yX1_change cX1_change 5 none, Cond.methodLink RX1 45 yX0_set, Cond.instanceMethod yX0_set, Cond.selects RX0 yX0_set yX0_set, Cond.code yX0_set cX0_set 3 none]
def wsX1_init : List Cond := .code yX1_init cX1_init 2 none :: ((wsX1_init_r1 ++ wsX1_init_r2) ++ wsX00 ++ wsX10)
def wsX1_isShut : List Cond := .code yX1_isShut cX1_isShut 2 (some .boolean) :: ([.fieldLink RX1 26 "TideWords$Gates" "shuts" "LTideWords$Cells;", .methodLink RX1 49 yX0_get, .instanceMethod yX0_get, .selects RX0 yX0_get yX0_get, .initialized RX0, .code yX0_get cX0_get 2 (some .int), .fieldLink RX0 13 "TideWords$Cells" "cells" "[I"] ++ wsX10 ++ wsX00)
def wsX1_isOpenAcross : List Cond := .code yX1_isOpenAcross cX1_isOpenAcross 3 (some .boolean) :: ([.methodLink RX1 57 Lib.Math.abs.name, .static Lib.Math.abs.name, .initialized "java/lang/Math", .code Lib.Math.abs.name Lib.Math.abs.code 1 (some .int), .fieldLink RX1 20 "TideWords$Gates" "slacks" "LTideWords$Cells;", .methodLink RX1 53 yX1_isShut, .instanceMethod yX1_isShut, .selects RX1 yX1_isShut yX1_isShut, .initialized RX1, .code yX1_isShut cX1_isShut 2 (some .boolean), .fieldLink RX1 26 "TideWords$Gates" "shuts" "LTideWords$Cells;", .methodLink RX1 49 yX0_get, .instanceMethod yX0_get, .selects RX0 yX0_get yX0_get, .initialized RX0, .code yX0_get cX0_get 2 (some .int), .fieldLink RX0 13 "TideWords$Cells" "cells" "[I"] ++ wsX10 ++ wsX00)
def wsX1_hasWord : List Cond := .code yX1_hasWord cX1_hasWord 2 (some .boolean) :: ([.fieldLink RX1 29 "TideWords$Gates" "held" "LTideWords$Cells;", .methodLink RX1 49 yX0_get, .instanceMethod yX0_get, .selects RX0 yX0_get yX0_get, .initialized RX0, .code yX0_get cX0_get 2 (some .int), .fieldLink RX0 13 "TideWords$Cells" "cells" "[I"] ++ wsX10 ++ wsX00)
def wsX1_release : List Cond := .code yX1_release cX1_release 2 none :: ([.fieldLink RX1 29 "TideWords$Gates" "held" "LTideWords$Cells;", .fieldLink RX1 32 "TideWords$Gates" "lettersDone" "LTideWords$Cells;", .methodLink RX1 45 yX0_set, .instanceMethod yX0_set, .selects RX0 yX0_set yX0_set, .initialized RX0, .code yX0_set cX0_set 3 none, .fieldLink RX0 13 "TideWords$Cells" "cells" "[I"] ++ wsX10 ++ wsX00)
def wsX1_wordsInside : List Cond := .code yX1_wordsInside cX1_wordsInside 3 (some .int) :: ([.methodLink RX1 62 yX1_hasWord, .instanceMethod yX1_hasWord, .selects RX1 yX1_hasWord yX1_hasWord, .initialized RX1, .code yX1_hasWord cX1_hasWord 2 (some .boolean), .fieldLink RX1 29 "TideWords$Gates" "held" "LTideWords$Cells;", .methodLink RX1 49 yX0_get, .instanceMethod yX0_get, .selects RX0 yX0_get yX0_get, .initialized RX0, .code yX0_get cX0_get 2 (some .int), .fieldLink RX0 13 "TideWords$Cells" "cells" "[I"] ++ wsX10 ++ wsX00)
def wsX1_gateWith : List Cond := .code yX1_gateWith cX1_gateWith 3 (some .int) :: ([.fieldLink RX1 29 "TideWords$Gates" "held" "LTideWords$Cells;", .methodLink RX1 49 yX0_get, .instanceMethod yX0_get, .selects RX0 yX0_get yX0_get, .initialized RX0, .code yX0_get cX0_get 2 (some .int), .fieldLink RX0 13 "TideWords$Cells" "cells" "[I"] ++ wsX10 ++ wsX00)
def wsX1_copyFrom : List Cond := .code yX1_copyFrom cX1_copyFrom 2 none :: ([.fieldLink RX1 14 "TideWords$Gates" "sides" "LTideWords$Cells;", .fieldLink RX1 20 "TideWords$Gates" "slacks" "LTideWords$Cells;", .fieldLink RX1 23 "TideWords$Gates" "ways" "LTideWords$Cells;", .fieldLink RX1 26 "TideWords$Gates" "shuts" "LTideWords$Cells;", .fieldLink RX1 29 "TideWords$Gates" "held" "LTideWords$Cells;", .fieldLink RX1 32 "TideWords$Gates" "lettersDone" "LTideWords$Cells;", .fieldLink RX1 35 "TideWords$Gates" "passedWords" "LTideWords$Cells;", .fieldLink RX1 38 "TideWords$Gates" "vainLetters" "LTideWords$Cells;", .methodLink RX1 65 yX0_copyFrom, .instanceMethod yX0_copyFrom, .selects RX0 yX0_copyFrom yX0_copyFrom, .initialized RX0, .code yX0_copyFrom cX0_copyFrom 2 none, .fieldLink RX0 13 "TideWords$Cells" "cells" "[I", .methodLink RX0 19 Lib.Math.min.name, .static Lib.Math.min.name, .initialized "java/lang/Math", .code Lib.Math.min.name Lib.Math.min.code 2 (some .int), .methodLink RX0 22 arraycopyName, .native arraycopyName, .static arraycopyName, .initialized "java/lang/System"] ++ wsX10 ++ wsX00)
def wsX2_init : List Cond := .code yX2_init cX2_init 1 none :: ([.methodLink RX2 3 objectInit, .instanceMethod objectInit, .code objectInit ⟨#[0xb1]⟩ 1 none, .classLink RX2 9 RX0, .instantiable RX0 1, .initialized RX0, .fieldLink RX2 14 "TideWords$Pad" "codes" "LTideWords$Cells;", .methodLink RX2 11 yX0_init, .instanceMethod yX0_init, .code yX0_init cX0_init 2 none, .methodLink RX0 1 objectInit, .methodLink RX0 7 Lib.Math.max.name, .static Lib.Math.max.name, .initialized "java/lang/Math", .code Lib.Math.max.name Lib.Math.max.code 2 (some .int), .arrayClass .int, .fieldLink RX0 13 "TideWords$Cells" "cells" "[I"] ++ wsX00 ++ wsX20)
def wsX2_append : List Cond := .code yX2_append cX2_append 2 none :: ([.fieldLink RX2 20 "TideWords$Pad" "length" "I", .fieldLink RX2 14 "TideWords$Pad" "codes" "LTideWords$Cells;", .methodLink RX2 24 yX0_set, .instanceMethod yX0_set, .selects RX0 yX0_set yX0_set, .initialized RX0, .code yX0_set cX0_set 3 none, .fieldLink RX0 13 "TideWords$Cells" "cells" "[I"] ++ wsX20 ++ wsX00)
def wsX2_wordsInside : List Cond := .code yX2_wordsInside cX2_wordsInside 3 (some .int) :: ([.fieldLink RX2 20 "TideWords$Pad" "length" "I", .fieldLink RX2 14 "TideWords$Pad" "codes" "LTideWords$Cells;", .methodLink RX2 28 yX0_get, .instanceMethod yX0_get, .selects RX0 yX0_get yX0_get, .initialized RX0, .code yX0_get cX0_get 2 (some .int), .fieldLink RX0 13 "TideWords$Cells" "cells" "[I"] ++ wsX20 ++ wsX00)
def wsX2_faultPlace : List Cond := .code yX2_faultPlace cX2_faultPlace 6 (some .int) :: ([.fieldLink RX2 20 "TideWords$Pad" "length" "I", .fieldLink RX2 14 "TideWords$Pad" "codes" "LTideWords$Cells;", .methodLink RX2 28 yX0_get, .instanceMethod yX0_get, .selects RX0 yX0_get yX0_get, .initialized RX0, .code yX0_get cX0_get 2 (some .int), .fieldLink RX0 13 "TideWords$Cells" "cells" "[I"] ++ wsX20 ++ wsX00)
def wsX3_change : List Cond := .code yX3_change cX3_change 5 none :: ([.fieldLink RX3 14 "TideWords$Tides" "means" "LTideWords$Cells;", .fieldLink RX3 20 "TideWords$Tides" "swings" "LTideWords$Cells;", .fieldLink RX3 23 "TideWords$Tides" "periods" "LTideWords$Cells;", .methodLink RX3 33 yX0_set, .instanceMethod yX0_set, .selects RX0 yX0_set yX0_set, .initialized RX0, .code yX0_set cX0_set 3 none, .fieldLink RX0 13 "TideWords$Cells" "cells" "[I"] ++ wsX30 ++ wsX00)
def wsX3_init_r1 : List Cond := [Cond.methodLink RX3 3 objectInit, Cond.instanceMethod objectInit, Cond.code objectInit ⟨#[0xb1]⟩ 1 none, Cond.classLink RX3 9 RX0, Cond.instantiable RX0 1, Cond.initialized RX0, Cond.fieldLink RX3 14 "TideWords$Tides" "means" "LTideWords$Cells;", Cond.fieldLink RX3 20 "TideWords$Tides" "swings" "LTideWords$Cells;", Cond.fieldLink RX3 23 "TideWords$Tides" "periods" "LTideWords$Cells;", Cond.fieldLink RX3 26 "TideWords$Tides" "lies" "LTideWords$Cells;", Cond.methodLink RX3 11 yX0_init, Cond.instanceMethod yX0_init, Cond.code yX0_init cX0_init 2 none, Cond.methodLink RX0 1 objectInit, Cond.methodLink RX0 7 Lib.Math.max.name, Cond.static Lib.Math.max.name, Cond.initialized "java/lang/Math", Cond.code Lib.Math.max.name Lib.Math.max.code 2 (some .int), Cond.arrayClass .int, Cond.fieldLink RX0 13 "TideWords$Cells" "cells" "[I", Cond.methodLink RX3 29 yX3_change, Cond.instanceMethod yX3_change, Cond.selects RX3 yX3_change yX3_change, Cond.initialized RX3]
def wsX3_init_r2 : List Cond := [Cond.code yX3_change cX3_change 5 none, Cond.methodLink RX3 33 yX0_set, Cond.instanceMethod yX0_set, Cond.selects RX0 yX0_set yX0_set, Cond.code yX0_set cX0_set 3 none]
def wsX3_init : List Cond := .code yX3_init cX3_init 1 none :: ((wsX3_init_r1 ++ wsX3_init_r2) ++ wsX00 ++ wsX30)
def wsX3_levelAt : List Cond := .code yX3_levelAt cX3_levelAt 6 (some .int) :: ([.fieldLink RX3 23 "TideWords$Tides" "periods" "LTideWords$Cells;", .fieldLink RX3 14 "TideWords$Tides" "means" "LTideWords$Cells;", .fieldLink RX3 20 "TideWords$Tides" "swings" "LTideWords$Cells;", .methodLink RX3 41 Lib.Math.min.name, .static Lib.Math.min.name, .initialized "java/lang/Math", .code Lib.Math.min.name Lib.Math.min.code 2 (some .int), .methodLink RX3 37 yX0_get, .instanceMethod yX0_get, .selects RX0 yX0_get yX0_get, .initialized RX0, .code yX0_get cX0_get 2 (some .int), .fieldLink RX0 13 "TideWords$Cells" "cells" "[I"] ++ wsX30 ++ wsX00)
def wsX3_toldAt : List Cond := .code yX3_toldAt cX3_toldAt 3 (some .int) :: ([.fieldLink RX3 26 "TideWords$Tides" "lies" "LTideWords$Cells;", .methodLink RX3 47 yX3_levelAt, .instanceMethod yX3_levelAt, .selects RX3 yX3_levelAt yX3_levelAt, .initialized RX3, .code yX3_levelAt cX3_levelAt 6 (some .int), .fieldLink RX3 23 "TideWords$Tides" "periods" "LTideWords$Cells;", .fieldLink RX3 14 "TideWords$Tides" "means" "LTideWords$Cells;", .fieldLink RX3 20 "TideWords$Tides" "swings" "LTideWords$Cells;", .methodLink RX3 41 Lib.Math.min.name, .static Lib.Math.min.name, .initialized "java/lang/Math", .code Lib.Math.min.name Lib.Math.min.code 2 (some .int), .methodLink RX3 37 yX0_get, .instanceMethod yX0_get, .selects RX0 yX0_get yX0_get, .initialized RX0, .code yX0_get cX0_get 2 (some .int), .fieldLink RX0 13 "TideWords$Cells" "cells" "[I"] ++ wsX30 ++ wsX00)
def wsX3_gapAt : List Cond := .code yX3_gapAt cX3_gapAt 2 (some .int) :: ([.methodLink RX3 50 yX3_toldAt, .instanceMethod yX3_toldAt, .selects RX3 yX3_toldAt yX3_toldAt, .initialized RX3, .code yX3_toldAt cX3_toldAt 3 (some .int), .fieldLink RX3 26 "TideWords$Tides" "lies" "LTideWords$Cells;", .methodLink RX3 47 yX3_levelAt, .instanceMethod yX3_levelAt, .selects RX3 yX3_levelAt yX3_levelAt, .code yX3_levelAt cX3_levelAt 6 (some .int), .fieldLink RX3 23 "TideWords$Tides" "periods" "LTideWords$Cells;", .fieldLink RX3 14 "TideWords$Tides" "means" "LTideWords$Cells;", .fieldLink RX3 20 "TideWords$Tides" "swings" "LTideWords$Cells;", .methodLink RX3 41 Lib.Math.min.name, .static Lib.Math.min.name, .initialized "java/lang/Math", .code Lib.Math.min.name Lib.Math.min.code 2 (some .int), .methodLink RX3 37 yX0_get, .instanceMethod yX0_get, .selects RX0 yX0_get yX0_get, .initialized RX0, .code yX0_get cX0_get 2 (some .int), .fieldLink RX0 13 "TideWords$Cells" "cells" "[I"] ++ wsX30 ++ wsX00)
def wsX3_copyFrom : List Cond := .code yX3_copyFrom cX3_copyFrom 2 none :: ([.fieldLink RX3 14 "TideWords$Tides" "means" "LTideWords$Cells;", .fieldLink RX3 20 "TideWords$Tides" "swings" "LTideWords$Cells;", .fieldLink RX3 23 "TideWords$Tides" "periods" "LTideWords$Cells;", .fieldLink RX3 26 "TideWords$Tides" "lies" "LTideWords$Cells;", .methodLink RX3 53 yX0_copyFrom, .instanceMethod yX0_copyFrom, .selects RX0 yX0_copyFrom yX0_copyFrom, .initialized RX0, .code yX0_copyFrom cX0_copyFrom 2 none, .fieldLink RX0 13 "TideWords$Cells" "cells" "[I", .methodLink RX0 19 Lib.Math.min.name, .static Lib.Math.min.name, .initialized "java/lang/Math", .code Lib.Math.min.name Lib.Math.min.code 2 (some .int), .methodLink RX0 22 arraycopyName, .native arraycopyName, .static arraycopyName, .initialized "java/lang/System"] ++ wsX30 ++ wsX00)
def wsX4_init : List Cond := .code yX4_init cX4_init 1 none :: ([.methodLink RX4 3 objectInit, .instanceMethod objectInit, .code objectInit ⟨#[0xb1]⟩ 1 none, .classLink RX4 9 RX0, .instantiable RX0 1, .initialized RX0, .fieldLink RX4 14 "TideWords$Words" "lengths" "LTideWords$Cells;", .fieldLink RX4 20 "TideWords$Words" "letters" "LTideWords$Cells;", .fieldLink RX4 23 "TideWords$Words" "passedSteps" "LTideWords$Cells;", .fieldLink RX4 26 "TideWords$Words" "passedGates" "LTideWords$Cells;", .fieldLink RX4 29 "TideWords$Words" "timesBack" "LTideWords$Cells;", .fieldLink RX4 32 "TideWords$Words" "rows" "LTideWords$Cells;", .fieldLink RX4 35 "TideWords$Words" "rowLengths" "LTideWords$Cells;", .methodLink RX4 11 yX0_init, .instanceMethod yX0_init, .code yX0_init cX0_init 2 none, .methodLink RX0 1 objectInit, .methodLink RX0 7 Lib.Math.max.name, .static Lib.Math.max.name, .initialized "java/lang/Math", .code Lib.Math.max.name Lib.Math.max.code 2 (some .int), .arrayClass .int, .fieldLink RX0 13 "TideWords$Cells" "cells" "[I"] ++ wsX00 ++ wsX40)
def wsX4_addLast : List Cond := .code yX4_addLast cX4_addLast 4 none :: ([.fieldLink RX4 35 "TideWords$Words" "rowLengths" "LTideWords$Cells;", .fieldLink RX4 32 "TideWords$Words" "rows" "LTideWords$Cells;", .methodLink RX4 49 yX0_get, .instanceMethod yX0_get, .selects RX0 yX0_get yX0_get, .initialized RX0, .code yX0_get cX0_get 2 (some .int), .fieldLink RX0 13 "TideWords$Cells" "cells" "[I", .methodLink RX4 42 yX0_set, .instanceMethod yX0_set, .selects RX0 yX0_set yX0_set, .code yX0_set cX0_set 3 none] ++ wsX40 ++ wsX00)
def wsX4_startWord : List Cond := .code yX4_startWord cX4_startWord 3 none :: ([.fieldLink RX4 38 "TideWords$Words" "total" "I", .fieldLink RX4 14 "TideWords$Words" "lengths" "LTideWords$Cells;", .fieldLink RX4 23 "TideWords$Words" "passedSteps" "LTideWords$Cells;", .fieldLink RX4 26 "TideWords$Words" "passedGates" "LTideWords$Cells;", .methodLink RX4 42 yX0_set, .instanceMethod yX0_set, .selects RX0 yX0_set yX0_set, .initialized RX0, .code yX0_set cX0_set 3 none, .fieldLink RX0 13 "TideWords$Cells" "cells" "[I", .methodLink RX4 46 yX4_addLast, .instanceMethod yX4_addLast, .selects RX4 yX4_addLast yX4_addLast, .initialized RX4, .code yX4_addLast cX4_addLast 4 none, .fieldLink RX4 35 "TideWords$Words" "rowLengths" "LTideWords$Cells;", .fieldLink RX4 32 "TideWords$Words" "rows" "LTideWords$Cells;", .methodLink RX4 49 yX0_get, .instanceMethod yX0_get, .selects RX0 yX0_get yX0_get, .code yX0_get cX0_get 2 (some .int)] ++ wsX40 ++ wsX00)
def wsX4_addLetter : List Cond := .code yX4_addLetter cX4_addLetter 4 none :: ([.fieldLink RX4 38 "TideWords$Words" "total" "I", .fieldLink RX4 14 "TideWords$Words" "lengths" "LTideWords$Cells;", .fieldLink RX4 20 "TideWords$Words" "letters" "LTideWords$Cells;", .methodLink RX4 49 yX0_get, .instanceMethod yX0_get, .selects RX0 yX0_get yX0_get, .initialized RX0, .code yX0_get cX0_get 2 (some .int), .fieldLink RX0 13 "TideWords$Cells" "cells" "[I", .methodLink RX4 42 yX0_set, .instanceMethod yX0_set, .selects RX0 yX0_set yX0_set, .code yX0_set cX0_set 3 none, .methodLink RX4 53 yX0_add, .instanceMethod yX0_add, .selects RX0 yX0_add yX0_add, .code yX0_add cX0_add 3 none] ++ wsX40 ++ wsX00)
def wsX4_letterOf : List Cond := .code yX4_letterOf cX4_letterOf 4 (some .int) :: ([.fieldLink RX4 14 "TideWords$Words" "lengths" "LTideWords$Cells;", .fieldLink RX4 20 "TideWords$Words" "letters" "LTideWords$Cells;", .methodLink RX4 49 yX0_get, .instanceMethod yX0_get, .selects RX0 yX0_get yX0_get, .initialized RX0, .code yX0_get cX0_get 2 (some .int), .fieldLink RX0 13 "TideWords$Cells" "cells" "[I"] ++ wsX40 ++ wsX00)
def wsX4_hasPassed : List Cond := .code yX4_hasPassed cX4_hasPassed 2 (some .boolean) :: ([.fieldLink RX4 23 "TideWords$Words" "passedSteps" "LTideWords$Cells;", .methodLink RX4 49 yX0_get, .instanceMethod yX0_get, .selects RX0 yX0_get yX0_get, .initialized RX0, .code yX0_get cX0_get 2 (some .int), .fieldLink RX0 13 "TideWords$Cells" "cells" "[I"] ++ wsX40 ++ wsX00)
def wsX4_markPassed : List Cond := .code yX4_markPassed cX4_markPassed 4 none :: ([.fieldLink RX4 23 "TideWords$Words" "passedSteps" "LTideWords$Cells;", .fieldLink RX4 26 "TideWords$Words" "passedGates" "LTideWords$Cells;", .methodLink RX4 42 yX0_set, .instanceMethod yX0_set, .selects RX0 yX0_set yX0_set, .initialized RX0, .code yX0_set cX0_set 3 none, .fieldLink RX0 13 "TideWords$Cells" "cells" "[I"] ++ wsX40 ++ wsX00)
def wsX4_wordAt : List Cond := .code yX4_wordAt cX4_wordAt 3 (some .int) :: ([.fieldLink RX4 32 "TideWords$Words" "rows" "LTideWords$Cells;", .methodLink RX4 49 yX0_get, .instanceMethod yX0_get, .selects RX0 yX0_get yX0_get, .initialized RX0, .code yX0_get cX0_get 2 (some .int), .fieldLink RX0 13 "TideWords$Cells" "cells" "[I"] ++ wsX40 ++ wsX00)
def wsX4_placeIn : List Cond := .code yX4_placeIn cX4_placeIn 5 (some .int) :: ([.fieldLink RX4 35 "TideWords$Words" "rowLengths" "LTideWords$Cells;", .methodLink RX4 49 yX0_get, .instanceMethod yX0_get, .selects RX0 yX0_get yX0_get, .initialized RX0, .code yX0_get cX0_get 2 (some .int), .fieldLink RX0 13 "TideWords$Cells" "cells" "[I", .methodLink RX4 56 yX4_wordAt, .instanceMethod yX4_wordAt, .selects RX4 yX4_wordAt yX4_wordAt, .initialized RX4, .code yX4_wordAt cX4_wordAt 3 (some .int), .fieldLink RX4 32 "TideWords$Words" "rows" "LTideWords$Cells;"] ++ wsX40 ++ wsX00)
def wsX4_placeOf : List Cond := .code yX4_placeOf cX4_placeOf 3 (some .int) :: ([.methodLink RX4 60 yX4_placeIn, .instanceMethod yX4_placeIn, .selects RX4 yX4_placeIn yX4_placeIn, .initialized RX4, .code yX4_placeIn cX4_placeIn 5 (some .int), .fieldLink RX4 35 "TideWords$Words" "rowLengths" "LTideWords$Cells;", .methodLink RX4 49 yX0_get, .instanceMethod yX0_get, .selects RX0 yX0_get yX0_get, .initialized RX0, .code yX0_get cX0_get 2 (some .int), .fieldLink RX0 13 "TideWords$Cells" "cells" "[I", .methodLink RX4 56 yX4_wordAt, .instanceMethod yX4_wordAt, .selects RX4 yX4_wordAt yX4_wordAt, .code yX4_wordAt cX4_wordAt 3 (some .int), .fieldLink RX4 32 "TideWords$Words" "rows" "LTideWords$Cells;"] ++ wsX40 ++ wsX00)
def wsX4_lettersInRow : List Cond := .code yX4_lettersInRow cX4_lettersInRow 5 (some .int) :: ([.fieldLink RX4 35 "TideWords$Words" "rowLengths" "LTideWords$Cells;", .fieldLink RX4 14 "TideWords$Words" "lengths" "LTideWords$Cells;", .methodLink RX4 49 yX0_get, .instanceMethod yX0_get, .selects RX0 yX0_get yX0_get, .initialized RX0, .code yX0_get cX0_get 2 (some .int), .fieldLink RX0 13 "TideWords$Cells" "cells" "[I", .methodLink RX4 56 yX4_wordAt, .instanceMethod yX4_wordAt, .selects RX4 yX4_wordAt yX4_wordAt, .initialized RX4, .code yX4_wordAt cX4_wordAt 3 (some .int), .fieldLink RX4 32 "TideWords$Words" "rows" "LTideWords$Cells;"] ++ wsX40 ++ wsX00)
def wsX4_waitingInRow : List Cond := .code yX4_waitingInRow cX4_waitingInRow 5 (some .int) :: ([.fieldLink RX4 35 "TideWords$Words" "rowLengths" "LTideWords$Cells;", .methodLink RX4 49 yX0_get, .instanceMethod yX0_get, .selects RX0 yX0_get yX0_get, .initialized RX0, .code yX0_get cX0_get 2 (some .int), .fieldLink RX0 13 "TideWords$Cells" "cells" "[I", .methodLink RX4 56 yX4_wordAt, .instanceMethod yX4_wordAt, .selects RX4 yX4_wordAt yX4_wordAt, .initialized RX4, .code yX4_wordAt cX4_wordAt 3 (some .int), .fieldLink RX4 32 "TideWords$Words" "rows" "LTideWords$Cells;", .methodLink RX4 63 yX4_hasPassed, .instanceMethod yX4_hasPassed, .selects RX4 yX4_hasPassed yX4_hasPassed, .code yX4_hasPassed cX4_hasPassed 2 (some .boolean), .fieldLink RX4 23 "TideWords$Words" "passedSteps" "LTideWords$Cells;"] ++ wsX40 ++ wsX00)
def wsX4_addFirst : List Cond := .code yX4_addFirst cX4_addFirst 6 none :: ([.fieldLink RX4 35 "TideWords$Words" "rowLengths" "LTideWords$Cells;", .fieldLink RX4 32 "TideWords$Words" "rows" "LTideWords$Cells;", .methodLink RX4 49 yX0_get, .instanceMethod yX0_get, .selects RX0 yX0_get yX0_get, .initialized RX0, .code yX0_get cX0_get 2 (some .int), .fieldLink RX0 13 "TideWords$Cells" "cells" "[I", .methodLink RX4 42 yX0_set, .instanceMethod yX0_set, .selects RX0 yX0_set yX0_set, .code yX0_set cX0_set 3 none] ++ wsX40 ++ wsX00)
def wsX4_removeFrom : List Cond := .code yX4_removeFrom cX4_removeFrom 6 none :: ([.fieldLink RX4 35 "TideWords$Words" "rowLengths" "LTideWords$Cells;", .fieldLink RX4 32 "TideWords$Words" "rows" "LTideWords$Cells;", .methodLink RX4 49 yX0_get, .instanceMethod yX0_get, .selects RX0 yX0_get yX0_get, .initialized RX0, .code yX0_get cX0_get 2 (some .int), .fieldLink RX0 13 "TideWords$Cells" "cells" "[I", .methodLink RX4 42 yX0_set, .instanceMethod yX0_set, .selects RX0 yX0_set yX0_set, .code yX0_set cX0_set 3 none] ++ wsX40 ++ wsX00)
def wsX4_takeWaiting_r1 : List Cond := [Cond.fieldLink RX4 35 "TideWords$Words" "rowLengths" "LTideWords$Cells;", Cond.methodLink RX4 49 yX0_get, Cond.instanceMethod yX0_get, Cond.selects RX0 yX0_get yX0_get, Cond.initialized RX0, Cond.code yX0_get cX0_get 2 (some .int), Cond.fieldLink RX0 13 "TideWords$Cells" "cells" "[I", Cond.methodLink RX4 56 yX4_wordAt, Cond.instanceMethod yX4_wordAt, Cond.selects RX4 yX4_wordAt yX4_wordAt, Cond.initialized RX4, Cond.code yX4_wordAt cX4_wordAt 3 (some .int), Cond.fieldLink RX4 32 "TideWords$Words" "rows" "LTideWords$Cells;", Cond.methodLink RX4 63 yX4_hasPassed, Cond.instanceMethod yX4_hasPassed, Cond.selects RX4 yX4_hasPassed yX4_hasPassed, Cond.code yX4_hasPassed cX4_hasPassed 2 (some .boolean), Cond.fieldLink RX4 23 "TideWords$Words" "passedSteps" "LTideWords$Cells;", Cond.methodLink RX4 67 yX4_removeFrom, Cond.instanceMethod yX4_removeFrom, Cond.selects RX4 yX4_removeFrom yX4_removeFrom, Cond.code yX4_removeFrom cX4_removeFrom 6 none, Cond.methodLink RX4 42 yX0_set, Cond.instanceMethod yX0_set]
def wsX4_takeWaiting_r2 : List Cond := [Cond.selects RX0 yX0_set yX0_set, Cond.code yX0_set cX0_set 3 none]
def wsX4_takeWaiting : List Cond := .code yX4_takeWaiting cX4_takeWaiting 5 (some .int) :: ((wsX4_takeWaiting_r1 ++ wsX4_takeWaiting_r2) ++ wsX40 ++ wsX00)
def wsX4_copyFrom : List Cond := .code yX4_copyFrom cX4_copyFrom 2 none :: ([.fieldLink RX4 14 "TideWords$Words" "lengths" "LTideWords$Cells;", .fieldLink RX4 20 "TideWords$Words" "letters" "LTideWords$Cells;", .fieldLink RX4 23 "TideWords$Words" "passedSteps" "LTideWords$Cells;", .fieldLink RX4 26 "TideWords$Words" "passedGates" "LTideWords$Cells;", .fieldLink RX4 29 "TideWords$Words" "timesBack" "LTideWords$Cells;", .fieldLink RX4 32 "TideWords$Words" "rows" "LTideWords$Cells;", .fieldLink RX4 35 "TideWords$Words" "rowLengths" "LTideWords$Cells;", .fieldLink RX4 38 "TideWords$Words" "total" "I", .methodLink RX4 70 yX0_copyFrom, .instanceMethod yX0_copyFrom, .selects RX0 yX0_copyFrom yX0_copyFrom, .initialized RX0, .code yX0_copyFrom cX0_copyFrom 2 none, .fieldLink RX0 13 "TideWords$Cells" "cells" "[I", .methodLink RX0 19 Lib.Math.min.name, .static Lib.Math.min.name, .initialized "java/lang/Math", .code Lib.Math.min.name Lib.Math.min.code 2 (some .int), .methodLink RX0 22 arraycopyName, .native arraycopyName, .static arraycopyName, .initialized "java/lang/System"] ++ wsX40 ++ wsX00)
def wsX5_init_r1 : List Cond := [Cond.methodLink RX5 3 objectInit, Cond.instanceMethod objectInit, Cond.code objectInit ⟨#[0xb1]⟩ 1 none, Cond.classLink RX5 9 RX3, Cond.instantiable RX3 4, Cond.initialized RX3, Cond.fieldLink RX5 12 "TideWords$World" "tides" "LTideWords$Tides;", Cond.classLink RX5 18 RX1, Cond.instantiable RX1 8, Cond.initialized RX1, Cond.fieldLink RX5 21 "TideWords$World" "gates" "LTideWords$Gates;", Cond.classLink RX5 25 RX4, Cond.instantiable RX4 8, Cond.initialized RX4, Cond.fieldLink RX5 28 "TideWords$World" "words" "LTideWords$Words;", Cond.methodLink RX5 11 yX3_init, Cond.instanceMethod yX3_init, Cond.code yX3_init cX3_init 1 none, Cond.methodLink RX3 3 objectInit, Cond.classLink RX3 9 RX0, Cond.instantiable RX0 1, Cond.initialized RX0, Cond.fieldLink RX3 14 "TideWords$Tides" "means" "LTideWords$Cells;", Cond.fieldLink RX3 20 "TideWords$Tides" "swings" "LTideWords$Cells;"]
def wsX5_init_r2 : List Cond := [Cond.fieldLink RX3 23 "TideWords$Tides" "periods" "LTideWords$Cells;", Cond.fieldLink RX3 26 "TideWords$Tides" "lies" "LTideWords$Cells;", Cond.methodLink RX3 11 yX0_init, Cond.instanceMethod yX0_init, Cond.code yX0_init cX0_init 2 none, Cond.methodLink RX0 1 objectInit, Cond.methodLink RX0 7 Lib.Math.max.name, Cond.static Lib.Math.max.name, Cond.initialized "java/lang/Math", Cond.code Lib.Math.max.name Lib.Math.max.code 2 (some .int), Cond.arrayClass .int, Cond.fieldLink RX0 13 "TideWords$Cells" "cells" "[I", Cond.methodLink RX3 29 yX3_change, Cond.instanceMethod yX3_change, Cond.selects RX3 yX3_change yX3_change, Cond.code yX3_change cX3_change 5 none, Cond.methodLink RX3 33 yX0_set, Cond.instanceMethod yX0_set, Cond.selects RX0 yX0_set yX0_set, Cond.code yX0_set cX0_set 3 none, Cond.methodLink RX5 20 yX1_init, Cond.instanceMethod yX1_init, Cond.code yX1_init cX1_init 2 none, Cond.methodLink RX1 3 objectInit]
def wsX5_init_r3 : List Cond := [Cond.classLink RX1 9 RX0, Cond.fieldLink RX1 14 "TideWords$Gates" "sides" "LTideWords$Cells;", Cond.fieldLink RX1 20 "TideWords$Gates" "slacks" "LTideWords$Cells;", Cond.fieldLink RX1 23 "TideWords$Gates" "ways" "LTideWords$Cells;", Cond.fieldLink RX1 26 "TideWords$Gates" "shuts" "LTideWords$Cells;", Cond.fieldLink RX1 29 "TideWords$Gates" "held" "LTideWords$Cells;", Cond.fieldLink RX1 32 "TideWords$Gates" "lettersDone" "LTideWords$Cells;", Cond.fieldLink RX1 35 "TideWords$Gates" "passedWords" "LTideWords$Cells;", Cond.fieldLink RX1 38 "TideWords$Gates" "vainLetters" "LTideWords$Cells;", Cond.methodLink RX1 11 yX0_init, Cond.methodLink RX1 41 yX1_change, Cond.instanceMethod yX1_change, Cond.selects RX1 yX1_change yX1_change, Cond.code yX1_change cX1_change 5 none, Cond.methodLink RX1 45 yX0_set, Cond.instanceMethod yX4_init, Cond.code yX4_init cX4_init 1 none, Cond.methodLink RX4 3 objectInit, Cond.classLink RX4 9 RX0, Cond.fieldLink RX4 14 "TideWords$Words" "lengths" "LTideWords$Cells;", Cond.fieldLink RX4 20 "TideWords$Words" "letters" "LTideWords$Cells;", Cond.fieldLink RX4 23 "TideWords$Words" "passedSteps" "LTideWords$Cells;", Cond.fieldLink RX4 26 "TideWords$Words" "passedGates" "LTideWords$Cells;", Cond.fieldLink RX4 29 "TideWords$Words" "timesBack" "LTideWords$Cells;"]
def wsX5_init_r4 : List Cond := [Cond.fieldLink RX4 32 "TideWords$Words" "rows" "LTideWords$Cells;", Cond.fieldLink RX4 35 "TideWords$Words" "rowLengths" "LTideWords$Cells;", Cond.methodLink RX4 11 yX0_init]
def wsX5_init : List Cond := .code yX5_init cX5_init 1 none :: ((wsX5_init_r1 ++ (wsX5_init_r2 ++ (wsX5_init_r3 ++ wsX5_init_r4))) ++ wsX30 ++ wsX50 ++ wsX10 ++ wsX40 ++ wsX00)
def wsX5_isOpenAt_r1 : List Cond := [Cond.fieldLink RX5 21 "TideWords$World" "gates" "LTideWords$Gates;", Cond.fieldLink RX5 12 "TideWords$World" "tides" "LTideWords$Tides;", Cond.methodLink RX5 32 yX3_gapAt, Cond.instanceMethod yX3_gapAt, Cond.selects RX3 yX3_gapAt yX3_gapAt, Cond.initialized RX3, Cond.code yX3_gapAt cX3_gapAt 2 (some .int), Cond.methodLink RX3 50 yX3_toldAt, Cond.instanceMethod yX3_toldAt, Cond.selects RX3 yX3_toldAt yX3_toldAt, Cond.code yX3_toldAt cX3_toldAt 3 (some .int), Cond.fieldLink RX3 26 "TideWords$Tides" "lies" "LTideWords$Cells;", Cond.methodLink RX3 47 yX3_levelAt, Cond.instanceMethod yX3_levelAt, Cond.selects RX3 yX3_levelAt yX3_levelAt, Cond.code yX3_levelAt cX3_levelAt 6 (some .int), Cond.fieldLink RX3 23 "TideWords$Tides" "periods" "LTideWords$Cells;", Cond.fieldLink RX3 14 "TideWords$Tides" "means" "LTideWords$Cells;", Cond.fieldLink RX3 20 "TideWords$Tides" "swings" "LTideWords$Cells;", Cond.methodLink RX3 41 Lib.Math.min.name, Cond.static Lib.Math.min.name, Cond.initialized "java/lang/Math", Cond.code Lib.Math.min.name Lib.Math.min.code 2 (some .int), Cond.methodLink RX3 37 yX0_get]
def wsX5_isOpenAt_r2 : List Cond := [Cond.instanceMethod yX0_get, Cond.selects RX0 yX0_get yX0_get, Cond.initialized RX0, Cond.code yX0_get cX0_get 2 (some .int), Cond.fieldLink RX0 13 "TideWords$Cells" "cells" "[I", Cond.methodLink RX5 36 yX1_isOpenAcross, Cond.instanceMethod yX1_isOpenAcross, Cond.selects RX1 yX1_isOpenAcross yX1_isOpenAcross, Cond.initialized RX1, Cond.code yX1_isOpenAcross cX1_isOpenAcross 3 (some .boolean), Cond.methodLink RX1 57 Lib.Math.abs.name, Cond.static Lib.Math.abs.name, Cond.code Lib.Math.abs.name Lib.Math.abs.code 1 (some .int), Cond.fieldLink RX1 20 "TideWords$Gates" "slacks" "LTideWords$Cells;", Cond.methodLink RX1 53 yX1_isShut, Cond.instanceMethod yX1_isShut, Cond.selects RX1 yX1_isShut yX1_isShut, Cond.code yX1_isShut cX1_isShut 2 (some .boolean), Cond.fieldLink RX1 26 "TideWords$Gates" "shuts" "LTideWords$Cells;", Cond.methodLink RX1 49 yX0_get]
def wsX5_isOpenAt : List Cond := .code yX5_isOpenAt cX5_isOpenAt 3 (some .boolean) :: ((wsX5_isOpenAt_r1 ++ wsX5_isOpenAt_r2) ++ wsX50 ++ wsX30 ++ wsX00 ++ wsX10)
def wsX5_openMask_r1 : List Cond := [Cond.fieldLink RX5 40 "TideWords$World" "steps" "I", Cond.methodLink RX5 44 yX5_isOpenAt, Cond.instanceMethod yX5_isOpenAt, Cond.selects RX5 yX5_isOpenAt yX5_isOpenAt, Cond.initialized RX5, Cond.code yX5_isOpenAt cX5_isOpenAt 3 (some .boolean), Cond.fieldLink RX5 21 "TideWords$World" "gates" "LTideWords$Gates;", Cond.fieldLink RX5 12 "TideWords$World" "tides" "LTideWords$Tides;", Cond.methodLink RX5 32 yX3_gapAt, Cond.instanceMethod yX3_gapAt, Cond.selects RX3 yX3_gapAt yX3_gapAt, Cond.initialized RX3, Cond.code yX3_gapAt cX3_gapAt 2 (some .int), Cond.methodLink RX3 50 yX3_toldAt, Cond.instanceMethod yX3_toldAt, Cond.selects RX3 yX3_toldAt yX3_toldAt, Cond.code yX3_toldAt cX3_toldAt 3 (some .int), Cond.fieldLink RX3 26 "TideWords$Tides" "lies" "LTideWords$Cells;", Cond.methodLink RX3 47 yX3_levelAt, Cond.instanceMethod yX3_levelAt, Cond.selects RX3 yX3_levelAt yX3_levelAt, Cond.code yX3_levelAt cX3_levelAt 6 (some .int), Cond.fieldLink RX3 23 "TideWords$Tides" "periods" "LTideWords$Cells;", Cond.fieldLink RX3 14 "TideWords$Tides" "means" "LTideWords$Cells;"]
def wsX5_openMask_r2 : List Cond := [Cond.fieldLink RX3 20 "TideWords$Tides" "swings" "LTideWords$Cells;", Cond.methodLink RX3 41 Lib.Math.min.name, Cond.static Lib.Math.min.name, Cond.initialized "java/lang/Math", Cond.code Lib.Math.min.name Lib.Math.min.code 2 (some .int), Cond.methodLink RX3 37 yX0_get, Cond.instanceMethod yX0_get, Cond.selects RX0 yX0_get yX0_get, Cond.initialized RX0, Cond.code yX0_get cX0_get 2 (some .int), Cond.fieldLink RX0 13 "TideWords$Cells" "cells" "[I", Cond.methodLink RX5 36 yX1_isOpenAcross, Cond.instanceMethod yX1_isOpenAcross, Cond.selects RX1 yX1_isOpenAcross yX1_isOpenAcross, Cond.initialized RX1, Cond.code yX1_isOpenAcross cX1_isOpenAcross 3 (some .boolean), Cond.methodLink RX1 57 Lib.Math.abs.name, Cond.static Lib.Math.abs.name, Cond.code Lib.Math.abs.name Lib.Math.abs.code 1 (some .int), Cond.fieldLink RX1 20 "TideWords$Gates" "slacks" "LTideWords$Cells;", Cond.methodLink RX1 53 yX1_isShut, Cond.instanceMethod yX1_isShut, Cond.selects RX1 yX1_isShut yX1_isShut, Cond.code yX1_isShut cX1_isShut 2 (some .boolean)]
def wsX5_openMask_r3 : List Cond := [Cond.fieldLink RX1 26 "TideWords$Gates" "shuts" "LTideWords$Cells;", Cond.methodLink RX1 49 yX0_get]
def wsX5_openMask : List Cond := .code yX5_openMask cX5_openMask 3 (some .int) :: ((wsX5_openMask_r1 ++ (wsX5_openMask_r2 ++ wsX5_openMask_r3)) ++ wsX50 ++ wsX30 ++ wsX00 ++ wsX10)
def wsX5_stepsUntilOpen_r1 : List Cond := [Cond.fieldLink RX5 40 "TideWords$World" "steps" "I", Cond.methodLink RX5 44 yX5_isOpenAt, Cond.instanceMethod yX5_isOpenAt, Cond.selects RX5 yX5_isOpenAt yX5_isOpenAt, Cond.initialized RX5, Cond.code yX5_isOpenAt cX5_isOpenAt 3 (some .boolean), Cond.fieldLink RX5 21 "TideWords$World" "gates" "LTideWords$Gates;", Cond.fieldLink RX5 12 "TideWords$World" "tides" "LTideWords$Tides;", Cond.methodLink RX5 32 yX3_gapAt, Cond.instanceMethod yX3_gapAt, Cond.selects RX3 yX3_gapAt yX3_gapAt, Cond.initialized RX3, Cond.code yX3_gapAt cX3_gapAt 2 (some .int), Cond.methodLink RX3 50 yX3_toldAt, Cond.instanceMethod yX3_toldAt, Cond.selects RX3 yX3_toldAt yX3_toldAt, Cond.code yX3_toldAt cX3_toldAt 3 (some .int), Cond.fieldLink RX3 26 "TideWords$Tides" "lies" "LTideWords$Cells;", Cond.methodLink RX3 47 yX3_levelAt, Cond.instanceMethod yX3_levelAt, Cond.selects RX3 yX3_levelAt yX3_levelAt, Cond.code yX3_levelAt cX3_levelAt 6 (some .int), Cond.fieldLink RX3 23 "TideWords$Tides" "periods" "LTideWords$Cells;", Cond.fieldLink RX3 14 "TideWords$Tides" "means" "LTideWords$Cells;"]
def wsX5_stepsUntilOpen_r2 : List Cond := [Cond.fieldLink RX3 20 "TideWords$Tides" "swings" "LTideWords$Cells;", Cond.methodLink RX3 41 Lib.Math.min.name, Cond.static Lib.Math.min.name, Cond.initialized "java/lang/Math", Cond.code Lib.Math.min.name Lib.Math.min.code 2 (some .int), Cond.methodLink RX3 37 yX0_get, Cond.instanceMethod yX0_get, Cond.selects RX0 yX0_get yX0_get, Cond.initialized RX0, Cond.code yX0_get cX0_get 2 (some .int), Cond.fieldLink RX0 13 "TideWords$Cells" "cells" "[I", Cond.methodLink RX5 36 yX1_isOpenAcross, Cond.instanceMethod yX1_isOpenAcross, Cond.selects RX1 yX1_isOpenAcross yX1_isOpenAcross, Cond.initialized RX1, Cond.code yX1_isOpenAcross cX1_isOpenAcross 3 (some .boolean), Cond.methodLink RX1 57 Lib.Math.abs.name, Cond.static Lib.Math.abs.name, Cond.code Lib.Math.abs.name Lib.Math.abs.code 1 (some .int), Cond.fieldLink RX1 20 "TideWords$Gates" "slacks" "LTideWords$Cells;", Cond.methodLink RX1 53 yX1_isShut, Cond.instanceMethod yX1_isShut, Cond.selects RX1 yX1_isShut yX1_isShut, Cond.code yX1_isShut cX1_isShut 2 (some .boolean)]
def wsX5_stepsUntilOpen_r3 : List Cond := [Cond.fieldLink RX1 26 "TideWords$Gates" "shuts" "LTideWords$Cells;", Cond.methodLink RX1 49 yX0_get]
def wsX5_stepsUntilOpen : List Cond := .code yX5_stepsUntilOpen cX5_stepsUntilOpen 3 (some .int) :: ((wsX5_stepsUntilOpen_r1 ++ (wsX5_stepsUntilOpen_r2 ++ wsX5_stepsUntilOpen_r3)) ++ wsX50 ++ wsX30 ++ wsX00 ++ wsX10)
def wsX5_openStepsFrom_r1 : List Cond := [Cond.methodLink RX5 44 yX5_isOpenAt, Cond.instanceMethod yX5_isOpenAt, Cond.selects RX5 yX5_isOpenAt yX5_isOpenAt, Cond.initialized RX5, Cond.code yX5_isOpenAt cX5_isOpenAt 3 (some .boolean), Cond.fieldLink RX5 21 "TideWords$World" "gates" "LTideWords$Gates;", Cond.fieldLink RX5 12 "TideWords$World" "tides" "LTideWords$Tides;", Cond.methodLink RX5 32 yX3_gapAt, Cond.instanceMethod yX3_gapAt, Cond.selects RX3 yX3_gapAt yX3_gapAt, Cond.initialized RX3, Cond.code yX3_gapAt cX3_gapAt 2 (some .int), Cond.methodLink RX3 50 yX3_toldAt, Cond.instanceMethod yX3_toldAt, Cond.selects RX3 yX3_toldAt yX3_toldAt, Cond.code yX3_toldAt cX3_toldAt 3 (some .int), Cond.fieldLink RX3 26 "TideWords$Tides" "lies" "LTideWords$Cells;", Cond.methodLink RX3 47 yX3_levelAt, Cond.instanceMethod yX3_levelAt, Cond.selects RX3 yX3_levelAt yX3_levelAt, Cond.code yX3_levelAt cX3_levelAt 6 (some .int), Cond.fieldLink RX3 23 "TideWords$Tides" "periods" "LTideWords$Cells;", Cond.fieldLink RX3 14 "TideWords$Tides" "means" "LTideWords$Cells;", Cond.fieldLink RX3 20 "TideWords$Tides" "swings" "LTideWords$Cells;"]
def wsX5_openStepsFrom_r2 : List Cond := [Cond.methodLink RX3 41 Lib.Math.min.name, Cond.static Lib.Math.min.name, Cond.initialized "java/lang/Math", Cond.code Lib.Math.min.name Lib.Math.min.code 2 (some .int), Cond.methodLink RX3 37 yX0_get, Cond.instanceMethod yX0_get, Cond.selects RX0 yX0_get yX0_get, Cond.initialized RX0, Cond.code yX0_get cX0_get 2 (some .int), Cond.fieldLink RX0 13 "TideWords$Cells" "cells" "[I", Cond.methodLink RX5 36 yX1_isOpenAcross, Cond.instanceMethod yX1_isOpenAcross, Cond.selects RX1 yX1_isOpenAcross yX1_isOpenAcross, Cond.initialized RX1, Cond.code yX1_isOpenAcross cX1_isOpenAcross 3 (some .boolean), Cond.methodLink RX1 57 Lib.Math.abs.name, Cond.static Lib.Math.abs.name, Cond.code Lib.Math.abs.name Lib.Math.abs.code 1 (some .int), Cond.fieldLink RX1 20 "TideWords$Gates" "slacks" "LTideWords$Cells;", Cond.methodLink RX1 53 yX1_isShut, Cond.instanceMethod yX1_isShut, Cond.selects RX1 yX1_isShut yX1_isShut, Cond.code yX1_isShut cX1_isShut 2 (some .boolean), Cond.fieldLink RX1 26 "TideWords$Gates" "shuts" "LTideWords$Cells;"]
def wsX5_openStepsFrom_r3 : List Cond := [Cond.methodLink RX1 49 yX0_get]
def wsX5_openStepsFrom : List Cond := .code yX5_openStepsFrom cX5_openStepsFrom 4 (some .int) :: ((wsX5_openStepsFrom_r1 ++ (wsX5_openStepsFrom_r2 ++ wsX5_openStepsFrom_r3)) ++ wsX50 ++ wsX30 ++ wsX00 ++ wsX10)
def wsX5_whereIs_r1 : List Cond := [Cond.fieldLink RX5 21 "TideWords$World" "gates" "LTideWords$Gates;", Cond.fieldLink RX5 28 "TideWords$World" "words" "LTideWords$Words;", Cond.methodLink RX5 47 yX1_gateWith, Cond.instanceMethod yX1_gateWith, Cond.selects RX1 yX1_gateWith yX1_gateWith, Cond.initialized RX1, Cond.code yX1_gateWith cX1_gateWith 3 (some .int), Cond.fieldLink RX1 29 "TideWords$Gates" "held" "LTideWords$Cells;", Cond.methodLink RX1 49 yX0_get, Cond.instanceMethod yX0_get, Cond.selects RX0 yX0_get yX0_get, Cond.initialized RX0, Cond.code yX0_get cX0_get 2 (some .int), Cond.fieldLink RX0 13 "TideWords$Cells" "cells" "[I", Cond.methodLink RX5 50 yX4_placeIn, Cond.instanceMethod yX4_placeIn, Cond.selects RX4 yX4_placeIn yX4_placeIn, Cond.initialized RX4, Cond.code yX4_placeIn cX4_placeIn 5 (some .int), Cond.fieldLink RX4 35 "TideWords$Words" "rowLengths" "LTideWords$Cells;", Cond.methodLink RX4 49 yX0_get, Cond.methodLink RX4 56 yX4_wordAt, Cond.instanceMethod yX4_wordAt, Cond.selects RX4 yX4_wordAt yX4_wordAt]
def wsX5_whereIs_r2 : List Cond := [Cond.code yX4_wordAt cX4_wordAt 3 (some .int), Cond.fieldLink RX4 32 "TideWords$Words" "rows" "LTideWords$Cells;"]
def wsX5_whereIs : List Cond := .code yX5_whereIs cX5_whereIs 3 (some .int) :: ((wsX5_whereIs_r1 ++ wsX5_whereIs_r2) ++ wsX50 ++ wsX10 ++ wsX00 ++ wsX40)
def wsX5_takeWord_r1 : List Cond := [Cond.fieldLink RX5 21 "TideWords$World" "gates" "LTideWords$Gates;", Cond.fieldLink RX5 74 "TideWords$Gates" "held" "LTideWords$Cells;", Cond.fieldLink RX5 28 "TideWords$World" "words" "LTideWords$Words;", Cond.fieldLink RX5 78 "TideWords$Gates" "sides" "LTideWords$Cells;", Cond.methodLink RX5 70 yX1_hasWord, Cond.instanceMethod yX1_hasWord, Cond.selects RX1 yX1_hasWord yX1_hasWord, Cond.initialized RX1, Cond.code yX1_hasWord cX1_hasWord 2 (some .boolean), Cond.fieldLink RX1 29 "TideWords$Gates" "held" "LTideWords$Cells;", Cond.methodLink RX1 49 yX0_get, Cond.instanceMethod yX0_get, Cond.selects RX0 yX0_get yX0_get, Cond.initialized RX0, Cond.code yX0_get cX0_get 2 (some .int), Cond.fieldLink RX0 13 "TideWords$Cells" "cells" "[I", Cond.methodLink RX5 81 yX0_get, Cond.methodLink RX5 86 yX4_takeWaiting, Cond.instanceMethod yX4_takeWaiting, Cond.selects RX4 yX4_takeWaiting yX4_takeWaiting, Cond.initialized RX4, Cond.code yX4_takeWaiting cX4_takeWaiting 5 (some .int), Cond.fieldLink RX4 35 "TideWords$Words" "rowLengths" "LTideWords$Cells;", Cond.methodLink RX4 49 yX0_get]
def wsX5_takeWord_r2 : List Cond := [Cond.methodLink RX4 56 yX4_wordAt, Cond.instanceMethod yX4_wordAt, Cond.selects RX4 yX4_wordAt yX4_wordAt, Cond.code yX4_wordAt cX4_wordAt 3 (some .int), Cond.fieldLink RX4 32 "TideWords$Words" "rows" "LTideWords$Cells;", Cond.methodLink RX4 63 yX4_hasPassed, Cond.instanceMethod yX4_hasPassed, Cond.selects RX4 yX4_hasPassed yX4_hasPassed, Cond.code yX4_hasPassed cX4_hasPassed 2 (some .boolean), Cond.fieldLink RX4 23 "TideWords$Words" "passedSteps" "LTideWords$Cells;", Cond.methodLink RX4 67 yX4_removeFrom, Cond.instanceMethod yX4_removeFrom, Cond.selects RX4 yX4_removeFrom yX4_removeFrom, Cond.code yX4_removeFrom cX4_removeFrom 6 none, Cond.methodLink RX4 42 yX0_set, Cond.instanceMethod yX0_set, Cond.selects RX0 yX0_set yX0_set, Cond.code yX0_set cX0_set 3 none, Cond.methodLink RX5 89 yX0_set]
def wsX5_takeWord : List Cond := .code yX5_takeWord cX5_takeWord 2 none :: ((wsX5_takeWord_r1 ++ wsX5_takeWord_r2) ++ wsX50 ++ wsX10 ++ wsX00 ++ wsX40)
def wsX5_passLetter_r1 : List Cond := [Cond.fieldLink RX5 21 "TideWords$World" "gates" "LTideWords$Gates;", Cond.fieldLink RX5 74 "TideWords$Gates" "held" "LTideWords$Cells;", Cond.fieldLink RX5 93 "TideWords$World" "letters" "I", Cond.fieldLink RX5 96 "TideWords$Gates" "lettersDone" "LTideWords$Cells;", Cond.fieldLink RX5 28 "TideWords$World" "words" "LTideWords$Words;", Cond.fieldLink RX5 102 "TideWords$Words" "lengths" "LTideWords$Cells;", Cond.fieldLink RX5 108 "TideWords$Gates" "passedWords" "LTideWords$Cells;", Cond.fieldLink RX5 40 "TideWords$World" "steps" "I", Cond.fieldLink RX5 78 "TideWords$Gates" "sides" "LTideWords$Cells;", Cond.methodLink RX5 81 yX0_get, Cond.instanceMethod yX0_get, Cond.selects RX0 yX0_get yX0_get, Cond.initialized RX0, Cond.code yX0_get cX0_get 2 (some .int), Cond.fieldLink RX0 13 "TideWords$Cells" "cells" "[I", Cond.methodLink RX5 99 yX0_add, Cond.instanceMethod yX0_add, Cond.selects RX0 yX0_add yX0_add, Cond.code yX0_add cX0_add 3 none, Cond.methodLink RX5 105 yX1_release, Cond.instanceMethod yX1_release, Cond.selects RX1 yX1_release yX1_release, Cond.initialized RX1, Cond.code yX1_release cX1_release 2 none]
def wsX5_passLetter_r2 : List Cond := [Cond.fieldLink RX1 29 "TideWords$Gates" "held" "LTideWords$Cells;", Cond.fieldLink RX1 32 "TideWords$Gates" "lettersDone" "LTideWords$Cells;", Cond.methodLink RX1 45 yX0_set, Cond.instanceMethod yX0_set, Cond.selects RX0 yX0_set yX0_set, Cond.code yX0_set cX0_set 3 none, Cond.methodLink RX5 111 yX4_markPassed, Cond.instanceMethod yX4_markPassed, Cond.selects RX4 yX4_markPassed yX4_markPassed, Cond.initialized RX4, Cond.code yX4_markPassed cX4_markPassed 4 none, Cond.fieldLink RX4 23 "TideWords$Words" "passedSteps" "LTideWords$Cells;", Cond.fieldLink RX4 26 "TideWords$Words" "passedGates" "LTideWords$Cells;", Cond.methodLink RX4 42 yX0_set, Cond.methodLink RX5 115 yX4_addLast, Cond.instanceMethod yX4_addLast, Cond.selects RX4 yX4_addLast yX4_addLast, Cond.code yX4_addLast cX4_addLast 4 none, Cond.fieldLink RX4 35 "TideWords$Words" "rowLengths" "LTideWords$Cells;", Cond.fieldLink RX4 32 "TideWords$Words" "rows" "LTideWords$Cells;", Cond.methodLink RX4 49 yX0_get]
def wsX5_passLetter : List Cond := .code yX5_passLetter cX5_passLetter 3 none :: ((wsX5_passLetter_r1 ++ wsX5_passLetter_r2) ++ wsX50 ++ wsX10 ++ wsX40 ++ wsX00)
def wsX5_sendBack_r1 : List Cond := [Cond.fieldLink RX5 21 "TideWords$World" "gates" "LTideWords$Gates;", Cond.fieldLink RX5 74 "TideWords$Gates" "held" "LTideWords$Cells;", Cond.fieldLink RX5 118 "TideWords$Gates" "ways" "LTideWords$Cells;", Cond.fieldLink RX5 121 "TideWords$Gates" "vainLetters" "LTideWords$Cells;", Cond.fieldLink RX5 96 "TideWords$Gates" "lettersDone" "LTideWords$Cells;", Cond.fieldLink RX5 28 "TideWords$World" "words" "LTideWords$Words;", Cond.fieldLink RX5 124 "TideWords$Words" "timesBack" "LTideWords$Cells;", Cond.fieldLink RX5 78 "TideWords$Gates" "sides" "LTideWords$Cells;", Cond.methodLink RX5 81 yX0_get, Cond.instanceMethod yX0_get, Cond.selects RX0 yX0_get yX0_get, Cond.initialized RX0, Cond.code yX0_get cX0_get 2 (some .int), Cond.fieldLink RX0 13 "TideWords$Cells" "cells" "[I", Cond.methodLink RX5 99 yX0_add, Cond.instanceMethod yX0_add, Cond.selects RX0 yX0_add yX0_add, Cond.code yX0_add cX0_add 3 none, Cond.methodLink RX5 105 yX1_release, Cond.instanceMethod yX1_release, Cond.selects RX1 yX1_release yX1_release, Cond.initialized RX1, Cond.code yX1_release cX1_release 2 none, Cond.fieldLink RX1 29 "TideWords$Gates" "held" "LTideWords$Cells;"]
def wsX5_sendBack_r2 : List Cond := [Cond.fieldLink RX1 32 "TideWords$Gates" "lettersDone" "LTideWords$Cells;", Cond.methodLink RX1 45 yX0_set, Cond.instanceMethod yX0_set, Cond.selects RX0 yX0_set yX0_set, Cond.code yX0_set cX0_set 3 none, Cond.methodLink RX5 127 yX4_addFirst, Cond.instanceMethod yX4_addFirst, Cond.selects RX4 yX4_addFirst yX4_addFirst, Cond.initialized RX4, Cond.code yX4_addFirst cX4_addFirst 6 none, Cond.fieldLink RX4 35 "TideWords$Words" "rowLengths" "LTideWords$Cells;", Cond.fieldLink RX4 32 "TideWords$Words" "rows" "LTideWords$Cells;", Cond.methodLink RX4 49 yX0_get, Cond.methodLink RX4 42 yX0_set]
def wsX5_sendBack : List Cond := .code yX5_sendBack cX5_sendBack 3 none :: ((wsX5_sendBack_r1 ++ wsX5_sendBack_r2) ++ wsX50 ++ wsX10 ++ wsX40 ++ wsX00)
def wsX5_stepAcross_r1 : List Cond := [Cond.fieldLink RX5 21 "TideWords$World" "gates" "LTideWords$Gates;", Cond.fieldLink RX5 67 "TideWords$World" "idleSteps" "I", Cond.fieldLink RX5 40 "TideWords$World" "steps" "I", Cond.methodLink RX5 36 yX1_isOpenAcross, Cond.instanceMethod yX1_isOpenAcross, Cond.selects RX1 yX1_isOpenAcross yX1_isOpenAcross, Cond.initialized RX1, Cond.code yX1_isOpenAcross cX1_isOpenAcross 3 (some .boolean), Cond.methodLink RX1 57 Lib.Math.abs.name, Cond.static Lib.Math.abs.name, Cond.initialized "java/lang/Math", Cond.code Lib.Math.abs.name Lib.Math.abs.code 1 (some .int), Cond.fieldLink RX1 20 "TideWords$Gates" "slacks" "LTideWords$Cells;", Cond.methodLink RX1 53 yX1_isShut, Cond.instanceMethod yX1_isShut, Cond.selects RX1 yX1_isShut yX1_isShut, Cond.code yX1_isShut cX1_isShut 2 (some .boolean), Cond.fieldLink RX1 26 "TideWords$Gates" "shuts" "LTideWords$Cells;", Cond.methodLink RX1 49 yX0_get, Cond.instanceMethod yX0_get, Cond.selects RX0 yX0_get yX0_get, Cond.initialized RX0, Cond.code yX0_get cX0_get 2 (some .int), Cond.fieldLink RX0 13 "TideWords$Cells" "cells" "[I"]
def wsX5_stepAcross_r2 : List Cond := [Cond.methodLink RX5 58 yX5_takeWord, Cond.instanceMethod yX5_takeWord, Cond.selects RX5 yX5_takeWord yX5_takeWord, Cond.initialized RX5, Cond.code yX5_takeWord cX5_takeWord 2 none, Cond.fieldLink RX5 74 "TideWords$Gates" "held" "LTideWords$Cells;", Cond.fieldLink RX5 28 "TideWords$World" "words" "LTideWords$Words;", Cond.fieldLink RX5 78 "TideWords$Gates" "sides" "LTideWords$Cells;", Cond.methodLink RX5 70 yX1_hasWord, Cond.instanceMethod yX1_hasWord, Cond.selects RX1 yX1_hasWord yX1_hasWord, Cond.code yX1_hasWord cX1_hasWord 2 (some .boolean), Cond.fieldLink RX1 29 "TideWords$Gates" "held" "LTideWords$Cells;", Cond.methodLink RX5 81 yX0_get, Cond.methodLink RX5 86 yX4_takeWaiting, Cond.instanceMethod yX4_takeWaiting, Cond.selects RX4 yX4_takeWaiting yX4_takeWaiting, Cond.initialized RX4, Cond.code yX4_takeWaiting cX4_takeWaiting 5 (some .int), Cond.fieldLink RX4 35 "TideWords$Words" "rowLengths" "LTideWords$Cells;", Cond.methodLink RX4 49 yX0_get, Cond.methodLink RX4 56 yX4_wordAt, Cond.instanceMethod yX4_wordAt, Cond.selects RX4 yX4_wordAt yX4_wordAt]
def wsX5_stepAcross_r3 : List Cond := [Cond.code yX4_wordAt cX4_wordAt 3 (some .int), Cond.fieldLink RX4 32 "TideWords$Words" "rows" "LTideWords$Cells;", Cond.methodLink RX4 63 yX4_hasPassed, Cond.instanceMethod yX4_hasPassed, Cond.selects RX4 yX4_hasPassed yX4_hasPassed, Cond.code yX4_hasPassed cX4_hasPassed 2 (some .boolean), Cond.fieldLink RX4 23 "TideWords$Words" "passedSteps" "LTideWords$Cells;", Cond.methodLink RX4 67 yX4_removeFrom, Cond.instanceMethod yX4_removeFrom, Cond.selects RX4 yX4_removeFrom yX4_removeFrom, Cond.code yX4_removeFrom cX4_removeFrom 6 none, Cond.methodLink RX4 42 yX0_set, Cond.instanceMethod yX0_set, Cond.selects RX0 yX0_set yX0_set, Cond.code yX0_set cX0_set 3 none, Cond.methodLink RX5 89 yX0_set, Cond.methodLink RX5 61 yX5_passLetter, Cond.instanceMethod yX5_passLetter, Cond.selects RX5 yX5_passLetter yX5_passLetter, Cond.code yX5_passLetter cX5_passLetter 3 none, Cond.fieldLink RX5 93 "TideWords$World" "letters" "I", Cond.fieldLink RX5 96 "TideWords$Gates" "lettersDone" "LTideWords$Cells;", Cond.fieldLink RX5 102 "TideWords$Words" "lengths" "LTideWords$Cells;", Cond.fieldLink RX5 108 "TideWords$Gates" "passedWords" "LTideWords$Cells;"]
def wsX5_stepAcross_r4 : List Cond := [Cond.methodLink RX5 99 yX0_add, Cond.instanceMethod yX0_add, Cond.selects RX0 yX0_add yX0_add, Cond.code yX0_add cX0_add 3 none, Cond.methodLink RX5 105 yX1_release, Cond.instanceMethod yX1_release, Cond.selects RX1 yX1_release yX1_release, Cond.code yX1_release cX1_release 2 none, Cond.fieldLink RX1 32 "TideWords$Gates" "lettersDone" "LTideWords$Cells;", Cond.methodLink RX1 45 yX0_set, Cond.methodLink RX5 111 yX4_markPassed, Cond.instanceMethod yX4_markPassed, Cond.selects RX4 yX4_markPassed yX4_markPassed, Cond.code yX4_markPassed cX4_markPassed 4 none, Cond.fieldLink RX4 26 "TideWords$Words" "passedGates" "LTideWords$Cells;", Cond.methodLink RX5 115 yX4_addLast, Cond.instanceMethod yX4_addLast, Cond.selects RX4 yX4_addLast yX4_addLast, Cond.code yX4_addLast cX4_addLast 4 none, Cond.methodLink RX5 64 yX5_sendBack, Cond.instanceMethod yX5_sendBack, Cond.selects RX5 yX5_sendBack yX5_sendBack, Cond.code yX5_sendBack cX5_sendBack 3 none, Cond.fieldLink RX5 118 "TideWords$Gates" "ways" "LTideWords$Cells;"]
def wsX5_stepAcross_r5 : List Cond := [Cond.fieldLink RX5 121 "TideWords$Gates" "vainLetters" "LTideWords$Cells;", Cond.fieldLink RX5 124 "TideWords$Words" "timesBack" "LTideWords$Cells;", Cond.methodLink RX5 127 yX4_addFirst, Cond.instanceMethod yX4_addFirst, Cond.selects RX4 yX4_addFirst yX4_addFirst, Cond.code yX4_addFirst cX4_addFirst 6 none]
def wsX5_stepAcross : List Cond := .code yX5_stepAcross cX5_stepAcross 4 none :: ((wsX5_stepAcross_r1 ++ (wsX5_stepAcross_r2 ++ (wsX5_stepAcross_r3 ++ (wsX5_stepAcross_r4 ++ wsX5_stepAcross_r5)))) ++ wsX50 ++ wsX10 ++ wsX00 ++ wsX40)
def wsX5_makeSteps_r1 : List Cond := [Cond.fieldLink RX5 12 "TideWords$World" "tides" "LTideWords$Tides;", Cond.fieldLink RX5 40 "TideWords$World" "steps" "I", Cond.methodLink RX5 32 yX3_gapAt, Cond.instanceMethod yX3_gapAt, Cond.selects RX3 yX3_gapAt yX3_gapAt, Cond.initialized RX3, Cond.code yX3_gapAt cX3_gapAt 2 (some .int), Cond.methodLink RX3 50 yX3_toldAt, Cond.instanceMethod yX3_toldAt, Cond.selects RX3 yX3_toldAt yX3_toldAt, Cond.code yX3_toldAt cX3_toldAt 3 (some .int), Cond.fieldLink RX3 26 "TideWords$Tides" "lies" "LTideWords$Cells;", Cond.methodLink RX3 47 yX3_levelAt, Cond.instanceMethod yX3_levelAt, Cond.selects RX3 yX3_levelAt yX3_levelAt, Cond.code yX3_levelAt cX3_levelAt 6 (some .int), Cond.fieldLink RX3 23 "TideWords$Tides" "periods" "LTideWords$Cells;", Cond.fieldLink RX3 14 "TideWords$Tides" "means" "LTideWords$Cells;", Cond.fieldLink RX3 20 "TideWords$Tides" "swings" "LTideWords$Cells;", Cond.methodLink RX3 41 Lib.Math.min.name, Cond.static Lib.Math.min.name, Cond.initialized "java/lang/Math", Cond.code Lib.Math.min.name Lib.Math.min.code 2 (some .int), Cond.methodLink RX3 37 yX0_get]
def wsX5_makeSteps_r2 : List Cond := [Cond.instanceMethod yX0_get, Cond.selects RX0 yX0_get yX0_get, Cond.initialized RX0, Cond.code yX0_get cX0_get 2 (some .int), Cond.fieldLink RX0 13 "TideWords$Cells" "cells" "[I", Cond.methodLink RX5 54 yX5_stepAcross, Cond.instanceMethod yX5_stepAcross, Cond.selects RX5 yX5_stepAcross yX5_stepAcross, Cond.initialized RX5, Cond.code yX5_stepAcross cX5_stepAcross 4 none, Cond.fieldLink RX5 21 "TideWords$World" "gates" "LTideWords$Gates;", Cond.fieldLink RX5 67 "TideWords$World" "idleSteps" "I", Cond.methodLink RX5 36 yX1_isOpenAcross, Cond.instanceMethod yX1_isOpenAcross, Cond.selects RX1 yX1_isOpenAcross yX1_isOpenAcross, Cond.initialized RX1, Cond.code yX1_isOpenAcross cX1_isOpenAcross 3 (some .boolean), Cond.methodLink RX1 57 Lib.Math.abs.name, Cond.static Lib.Math.abs.name, Cond.code Lib.Math.abs.name Lib.Math.abs.code 1 (some .int), Cond.fieldLink RX1 20 "TideWords$Gates" "slacks" "LTideWords$Cells;", Cond.methodLink RX1 53 yX1_isShut, Cond.instanceMethod yX1_isShut, Cond.selects RX1 yX1_isShut yX1_isShut]
def wsX5_makeSteps_r3 : List Cond := [Cond.code yX1_isShut cX1_isShut 2 (some .boolean), Cond.fieldLink RX1 26 "TideWords$Gates" "shuts" "LTideWords$Cells;", Cond.methodLink RX1 49 yX0_get, Cond.methodLink RX5 58 yX5_takeWord, Cond.instanceMethod yX5_takeWord, Cond.selects RX5 yX5_takeWord yX5_takeWord, Cond.code yX5_takeWord cX5_takeWord 2 none, Cond.fieldLink RX5 74 "TideWords$Gates" "held" "LTideWords$Cells;", Cond.fieldLink RX5 28 "TideWords$World" "words" "LTideWords$Words;", Cond.fieldLink RX5 78 "TideWords$Gates" "sides" "LTideWords$Cells;", Cond.methodLink RX5 70 yX1_hasWord, Cond.instanceMethod yX1_hasWord, Cond.selects RX1 yX1_hasWord yX1_hasWord, Cond.code yX1_hasWord cX1_hasWord 2 (some .boolean), Cond.fieldLink RX1 29 "TideWords$Gates" "held" "LTideWords$Cells;", Cond.methodLink RX5 81 yX0_get, Cond.methodLink RX5 86 yX4_takeWaiting, Cond.instanceMethod yX4_takeWaiting, Cond.selects RX4 yX4_takeWaiting yX4_takeWaiting, Cond.initialized RX4, Cond.code yX4_takeWaiting cX4_takeWaiting 5 (some .int), Cond.fieldLink RX4 35 "TideWords$Words" "rowLengths" "LTideWords$Cells;", Cond.methodLink RX4 49 yX0_get, Cond.methodLink RX4 56 yX4_wordAt]
def wsX5_makeSteps_r4 : List Cond := [Cond.instanceMethod yX4_wordAt, Cond.selects RX4 yX4_wordAt yX4_wordAt, Cond.code yX4_wordAt cX4_wordAt 3 (some .int), Cond.fieldLink RX4 32 "TideWords$Words" "rows" "LTideWords$Cells;", Cond.methodLink RX4 63 yX4_hasPassed, Cond.instanceMethod yX4_hasPassed, Cond.selects RX4 yX4_hasPassed yX4_hasPassed, Cond.code yX4_hasPassed cX4_hasPassed 2 (some .boolean), Cond.fieldLink RX4 23 "TideWords$Words" "passedSteps" "LTideWords$Cells;", Cond.methodLink RX4 67 yX4_removeFrom, Cond.instanceMethod yX4_removeFrom, Cond.selects RX4 yX4_removeFrom yX4_removeFrom, Cond.code yX4_removeFrom cX4_removeFrom 6 none, Cond.methodLink RX4 42 yX0_set, Cond.instanceMethod yX0_set, Cond.selects RX0 yX0_set yX0_set, Cond.code yX0_set cX0_set 3 none, Cond.methodLink RX5 89 yX0_set, Cond.methodLink RX5 61 yX5_passLetter, Cond.instanceMethod yX5_passLetter, Cond.selects RX5 yX5_passLetter yX5_passLetter, Cond.code yX5_passLetter cX5_passLetter 3 none, Cond.fieldLink RX5 93 "TideWords$World" "letters" "I", Cond.fieldLink RX5 96 "TideWords$Gates" "lettersDone" "LTideWords$Cells;"]
def wsX5_makeSteps_r5 : List Cond := [Cond.fieldLink RX5 102 "TideWords$Words" "lengths" "LTideWords$Cells;", Cond.fieldLink RX5 108 "TideWords$Gates" "passedWords" "LTideWords$Cells;", Cond.methodLink RX5 99 yX0_add, Cond.instanceMethod yX0_add, Cond.selects RX0 yX0_add yX0_add, Cond.code yX0_add cX0_add 3 none, Cond.methodLink RX5 105 yX1_release, Cond.instanceMethod yX1_release, Cond.selects RX1 yX1_release yX1_release, Cond.code yX1_release cX1_release 2 none, Cond.fieldLink RX1 32 "TideWords$Gates" "lettersDone" "LTideWords$Cells;", Cond.methodLink RX1 45 yX0_set, Cond.methodLink RX5 111 yX4_markPassed, Cond.instanceMethod yX4_markPassed, Cond.selects RX4 yX4_markPassed yX4_markPassed, Cond.code yX4_markPassed cX4_markPassed 4 none, Cond.fieldLink RX4 26 "TideWords$Words" "passedGates" "LTideWords$Cells;", Cond.methodLink RX5 115 yX4_addLast, Cond.instanceMethod yX4_addLast, Cond.selects RX4 yX4_addLast yX4_addLast, Cond.code yX4_addLast cX4_addLast 4 none, Cond.methodLink RX5 64 yX5_sendBack, Cond.instanceMethod yX5_sendBack, Cond.selects RX5 yX5_sendBack yX5_sendBack]
def wsX5_makeSteps_r6 : List Cond := [Cond.code yX5_sendBack cX5_sendBack 3 none, Cond.fieldLink RX5 118 "TideWords$Gates" "ways" "LTideWords$Cells;", Cond.fieldLink RX5 121 "TideWords$Gates" "vainLetters" "LTideWords$Cells;", Cond.fieldLink RX5 124 "TideWords$Words" "timesBack" "LTideWords$Cells;", Cond.methodLink RX5 127 yX4_addFirst, Cond.instanceMethod yX4_addFirst, Cond.selects RX4 yX4_addFirst yX4_addFirst, Cond.code yX4_addFirst cX4_addFirst 6 none]
def wsX5_makeSteps : List Cond := .code yX5_makeSteps cX5_makeSteps 3 none :: ((wsX5_makeSteps_r1 ++ (wsX5_makeSteps_r2 ++ (wsX5_makeSteps_r3 ++ (wsX5_makeSteps_r4 ++ (wsX5_makeSteps_r5 ++ wsX5_makeSteps_r6))))) ++ wsX50 ++ wsX30 ++ wsX00 ++ wsX10 ++ wsX40)
def wsX5_tally : List Cond := .code yX5_tally cX5_tally 2 (some .int) :: ([.fieldLink RX5 21 "TideWords$World" "gates" "LTideWords$Gates;", .fieldLink RX5 108 "TideWords$Gates" "passedWords" "LTideWords$Cells;", .fieldLink RX5 121 "TideWords$Gates" "vainLetters" "LTideWords$Cells;", .fieldLink RX5 28 "TideWords$World" "words" "LTideWords$Words;", .fieldLink RX5 124 "TideWords$Words" "timesBack" "LTideWords$Cells;", .fieldLink RX5 67 "TideWords$World" "idleSteps" "I", .methodLink RX5 130 yX0_sum, .instanceMethod yX0_sum, .selects RX0 yX0_sum yX0_sum, .initialized RX0, .code yX0_sum cX0_sum 3 (some .int), .fieldLink RX0 13 "TideWords$Cells" "cells" "[I"] ++ wsX50 ++ wsX10 ++ wsX40 ++ wsX00)
def wsX5_copyFrom_r1 : List Cond := [Cond.fieldLink RX5 12 "TideWords$World" "tides" "LTideWords$Tides;", Cond.fieldLink RX5 21 "TideWords$World" "gates" "LTideWords$Gates;", Cond.fieldLink RX5 28 "TideWords$World" "words" "LTideWords$Words;", Cond.fieldLink RX5 40 "TideWords$World" "steps" "I", Cond.fieldLink RX5 93 "TideWords$World" "letters" "I", Cond.fieldLink RX5 67 "TideWords$World" "idleSteps" "I", Cond.methodLink RX5 134 yX3_copyFrom, Cond.instanceMethod yX3_copyFrom, Cond.selects RX3 yX3_copyFrom yX3_copyFrom, Cond.initialized RX3, Cond.code yX3_copyFrom cX3_copyFrom 2 none, Cond.fieldLink RX3 14 "TideWords$Tides" "means" "LTideWords$Cells;", Cond.fieldLink RX3 20 "TideWords$Tides" "swings" "LTideWords$Cells;", Cond.fieldLink RX3 23 "TideWords$Tides" "periods" "LTideWords$Cells;", Cond.fieldLink RX3 26 "TideWords$Tides" "lies" "LTideWords$Cells;", Cond.methodLink RX3 53 yX0_copyFrom, Cond.instanceMethod yX0_copyFrom, Cond.selects RX0 yX0_copyFrom yX0_copyFrom, Cond.initialized RX0, Cond.code yX0_copyFrom cX0_copyFrom 2 none, Cond.fieldLink RX0 13 "TideWords$Cells" "cells" "[I", Cond.methodLink RX0 19 Lib.Math.min.name, Cond.static Lib.Math.min.name, Cond.initialized "java/lang/Math"]
def wsX5_copyFrom_r2 : List Cond := [Cond.code Lib.Math.min.name Lib.Math.min.code 2 (some .int), Cond.methodLink RX0 22 arraycopyName, Cond.native arraycopyName, Cond.static arraycopyName, Cond.initialized "java/lang/System", Cond.methodLink RX5 138 yX1_copyFrom, Cond.instanceMethod yX1_copyFrom, Cond.selects RX1 yX1_copyFrom yX1_copyFrom, Cond.initialized RX1, Cond.code yX1_copyFrom cX1_copyFrom 2 none, Cond.fieldLink RX1 14 "TideWords$Gates" "sides" "LTideWords$Cells;", Cond.fieldLink RX1 20 "TideWords$Gates" "slacks" "LTideWords$Cells;", Cond.fieldLink RX1 23 "TideWords$Gates" "ways" "LTideWords$Cells;", Cond.fieldLink RX1 26 "TideWords$Gates" "shuts" "LTideWords$Cells;", Cond.fieldLink RX1 29 "TideWords$Gates" "held" "LTideWords$Cells;", Cond.fieldLink RX1 32 "TideWords$Gates" "lettersDone" "LTideWords$Cells;", Cond.fieldLink RX1 35 "TideWords$Gates" "passedWords" "LTideWords$Cells;", Cond.fieldLink RX1 38 "TideWords$Gates" "vainLetters" "LTideWords$Cells;", Cond.methodLink RX1 65 yX0_copyFrom, Cond.methodLink RX5 141 yX4_copyFrom, Cond.instanceMethod yX4_copyFrom, Cond.selects RX4 yX4_copyFrom yX4_copyFrom, Cond.initialized RX4, Cond.code yX4_copyFrom cX4_copyFrom 2 none]
def wsX5_copyFrom_r3 : List Cond := [Cond.fieldLink RX4 14 "TideWords$Words" "lengths" "LTideWords$Cells;", Cond.fieldLink RX4 20 "TideWords$Words" "letters" "LTideWords$Cells;", Cond.fieldLink RX4 23 "TideWords$Words" "passedSteps" "LTideWords$Cells;", Cond.fieldLink RX4 26 "TideWords$Words" "passedGates" "LTideWords$Cells;", Cond.fieldLink RX4 29 "TideWords$Words" "timesBack" "LTideWords$Cells;", Cond.fieldLink RX4 32 "TideWords$Words" "rows" "LTideWords$Cells;", Cond.fieldLink RX4 35 "TideWords$Words" "rowLengths" "LTideWords$Cells;", Cond.fieldLink RX4 38 "TideWords$Words" "total" "I", Cond.methodLink RX4 70 yX0_copyFrom]
def wsX5_copyFrom : List Cond := .code yX5_copyFrom cX5_copyFrom 2 none :: ((wsX5_copyFrom_r1 ++ (wsX5_copyFrom_r2 ++ wsX5_copyFrom_r3)) ++ wsX50 ++ wsX30 ++ wsX00 ++ wsX10 ++ wsX40)
def wsX6_init_r1 : List Cond := [Cond.methodLink RX6 1 objectInit, Cond.instanceMethod objectInit, Cond.code objectInit ⟨#[0xb1]⟩ 1 none, Cond.classLink RX6 7 RX5, Cond.instantiable RX5 6, Cond.initialized RX5, Cond.fieldLink RX6 10 "TideWords" "now" "LTideWords$World;", Cond.fieldLink RX6 16 "TideWords" "trial" "LTideWords$World;", Cond.classLink RX6 19 RX2, Cond.instantiable RX2 2, Cond.initialized RX2, Cond.fieldLink RX6 22 "TideWords" "pad" "LTideWords$Pad;", Cond.fieldLink RX6 26 "TideWords" "history" "[LTideWords$World;", Cond.fieldLink RX6 30 "TideWords" "slots" "[LTideWords$World;", Cond.classLink RX6 33 RX0, Cond.instantiable RX0 1, Cond.initialized RX0, Cond.fieldLink RX6 38 "TideWords" "isSaved" "LTideWords$Cells;", Cond.fieldLink RX6 42 "TideWords" "gapsAhead" "LTideWords$Cells;", Cond.instanceMethod yX5_init, Cond.code yX5_init cX5_init 1 none, Cond.methodLink RX5 3 objectInit, Cond.classLink RX5 9 RX3, Cond.instantiable RX3 4]
def wsX6_init_r2 : List Cond := [Cond.initialized RX3, Cond.fieldLink RX5 12 "TideWords$World" "tides" "LTideWords$Tides;", Cond.classLink RX5 18 RX1, Cond.instantiable RX1 8, Cond.initialized RX1, Cond.fieldLink RX5 21 "TideWords$World" "gates" "LTideWords$Gates;", Cond.classLink RX5 25 RX4, Cond.instantiable RX4 8, Cond.initialized RX4, Cond.fieldLink RX5 28 "TideWords$World" "words" "LTideWords$Words;", Cond.methodLink RX5 11 yX3_init, Cond.instanceMethod yX3_init, Cond.code yX3_init cX3_init 1 none, Cond.methodLink RX3 3 objectInit, Cond.classLink RX3 9 RX0, Cond.fieldLink RX3 14 "TideWords$Tides" "means" "LTideWords$Cells;", Cond.fieldLink RX3 20 "TideWords$Tides" "swings" "LTideWords$Cells;", Cond.fieldLink RX3 23 "TideWords$Tides" "periods" "LTideWords$Cells;", Cond.fieldLink RX3 26 "TideWords$Tides" "lies" "LTideWords$Cells;", Cond.methodLink RX3 11 yX0_init, Cond.instanceMethod yX0_init, Cond.code yX0_init cX0_init 2 none, Cond.methodLink RX0 1 objectInit, Cond.methodLink RX0 7 Lib.Math.max.name]
def wsX6_init_r3 : List Cond := [Cond.static Lib.Math.max.name, Cond.initialized "java/lang/Math", Cond.code Lib.Math.max.name Lib.Math.max.code 2 (some .int), Cond.arrayClass .int, Cond.fieldLink RX0 13 "TideWords$Cells" "cells" "[I", Cond.methodLink RX3 29 yX3_change, Cond.instanceMethod yX3_change, Cond.selects RX3 yX3_change yX3_change, Cond.code yX3_change cX3_change 5 none, Cond.methodLink RX3 33 yX0_set, Cond.instanceMethod yX0_set, Cond.selects RX0 yX0_set yX0_set, Cond.code yX0_set cX0_set 3 none, Cond.methodLink RX5 20 yX1_init, Cond.instanceMethod yX1_init, Cond.code yX1_init cX1_init 2 none, Cond.methodLink RX1 3 objectInit, Cond.classLink RX1 9 RX0, Cond.fieldLink RX1 14 "TideWords$Gates" "sides" "LTideWords$Cells;", Cond.fieldLink RX1 20 "TideWords$Gates" "slacks" "LTideWords$Cells;", Cond.fieldLink RX1 23 "TideWords$Gates" "ways" "LTideWords$Cells;", Cond.fieldLink RX1 26 "TideWords$Gates" "shuts" "LTideWords$Cells;", Cond.fieldLink RX1 29 "TideWords$Gates" "held" "LTideWords$Cells;", Cond.fieldLink RX1 32 "TideWords$Gates" "lettersDone" "LTideWords$Cells;"]
def wsX6_init_r4 : List Cond := [Cond.fieldLink RX1 35 "TideWords$Gates" "passedWords" "LTideWords$Cells;", Cond.fieldLink RX1 38 "TideWords$Gates" "vainLetters" "LTideWords$Cells;", Cond.methodLink RX1 11 yX0_init, Cond.methodLink RX1 41 yX1_change, Cond.instanceMethod yX1_change, Cond.selects RX1 yX1_change yX1_change, Cond.code yX1_change cX1_change 5 none, Cond.methodLink RX1 45 yX0_set, Cond.instanceMethod yX4_init, Cond.code yX4_init cX4_init 1 none, Cond.methodLink RX4 3 objectInit, Cond.classLink RX4 9 RX0, Cond.fieldLink RX4 14 "TideWords$Words" "lengths" "LTideWords$Cells;", Cond.fieldLink RX4 20 "TideWords$Words" "letters" "LTideWords$Cells;", Cond.fieldLink RX4 23 "TideWords$Words" "passedSteps" "LTideWords$Cells;", Cond.fieldLink RX4 26 "TideWords$Words" "passedGates" "LTideWords$Cells;", Cond.fieldLink RX4 29 "TideWords$Words" "timesBack" "LTideWords$Cells;", Cond.fieldLink RX4 32 "TideWords$Words" "rows" "LTideWords$Cells;", Cond.fieldLink RX4 35 "TideWords$Words" "rowLengths" "LTideWords$Cells;", Cond.methodLink RX4 11 yX0_init, Cond.instanceMethod yX2_init, Cond.code yX2_init cX2_init 1 none, Cond.methodLink RX2 3 objectInit, Cond.classLink RX2 9 RX0]
def wsX6_init_r5 : List Cond := [Cond.fieldLink RX2 14 "TideWords$Pad" "codes" "LTideWords$Cells;", Cond.methodLink RX2 11 yX0_init, Cond.methodLink RX6 35 yX0_init]
def wsX6_init : List Cond := .code yX6_init cX6_init 2 none :: ((wsX6_init_r1 ++ (wsX6_init_r2 ++ (wsX6_init_r3 ++ (wsX6_init_r4 ++ wsX6_init_r5)))) ++ wsX50 ++ wsX60 ++ wsX20 ++ wsX00 ++ wsX30 ++ wsX10 ++ wsX40)
def wsX6_isWithin : List Cond := .code yX6_isWithin cX6_isWithin 3 (some .boolean) :: ([])
def wsX6_isStore : List Cond := .code yX6_isStore cX6_isStore 1 (some .boolean) :: ([.methodLink RX6 49 yX6_isWithin, .static yX6_isWithin, .initialized RX6, .code yX6_isWithin cX6_isWithin 3 (some .boolean)])
def wsX6_worldIn : List Cond := .code yX6_worldIn cX6_worldIn 2 (some (.object "TideWords$World")) :: ([])
def wsX6_copyInto_r1 : List Cond := [Cond.fieldLink RX6 10 "TideWords" "now" "LTideWords$World;", Cond.methodLink RX6 262 yX6_worldIn, Cond.static yX6_worldIn, Cond.initialized RX6, Cond.code yX6_worldIn cX6_worldIn 2 (some (.object "TideWords$World")), Cond.methodLink RX6 228 yX5_copyFrom, Cond.instanceMethod yX5_copyFrom, Cond.selects RX5 yX5_copyFrom yX5_copyFrom, Cond.initialized RX5, Cond.code yX5_copyFrom cX5_copyFrom 2 none, Cond.fieldLink RX5 12 "TideWords$World" "tides" "LTideWords$Tides;", Cond.fieldLink RX5 21 "TideWords$World" "gates" "LTideWords$Gates;", Cond.fieldLink RX5 28 "TideWords$World" "words" "LTideWords$Words;", Cond.fieldLink RX5 40 "TideWords$World" "steps" "I", Cond.fieldLink RX5 93 "TideWords$World" "letters" "I", Cond.fieldLink RX5 67 "TideWords$World" "idleSteps" "I", Cond.methodLink RX5 134 yX3_copyFrom, Cond.instanceMethod yX3_copyFrom, Cond.selects RX3 yX3_copyFrom yX3_copyFrom, Cond.initialized RX3, Cond.code yX3_copyFrom cX3_copyFrom 2 none, Cond.fieldLink RX3 14 "TideWords$Tides" "means" "LTideWords$Cells;", Cond.fieldLink RX3 20 "TideWords$Tides" "swings" "LTideWords$Cells;", Cond.fieldLink RX3 23 "TideWords$Tides" "periods" "LTideWords$Cells;"]
def wsX6_copyInto_r2 : List Cond := [Cond.fieldLink RX3 26 "TideWords$Tides" "lies" "LTideWords$Cells;", Cond.methodLink RX3 53 yX0_copyFrom, Cond.instanceMethod yX0_copyFrom, Cond.selects RX0 yX0_copyFrom yX0_copyFrom, Cond.initialized RX0, Cond.code yX0_copyFrom cX0_copyFrom 2 none, Cond.fieldLink RX0 13 "TideWords$Cells" "cells" "[I", Cond.methodLink RX0 19 Lib.Math.min.name, Cond.static Lib.Math.min.name, Cond.initialized "java/lang/Math", Cond.code Lib.Math.min.name Lib.Math.min.code 2 (some .int), Cond.methodLink RX0 22 arraycopyName, Cond.native arraycopyName, Cond.static arraycopyName, Cond.initialized "java/lang/System", Cond.methodLink RX5 138 yX1_copyFrom, Cond.instanceMethod yX1_copyFrom, Cond.selects RX1 yX1_copyFrom yX1_copyFrom, Cond.initialized RX1, Cond.code yX1_copyFrom cX1_copyFrom 2 none, Cond.fieldLink RX1 14 "TideWords$Gates" "sides" "LTideWords$Cells;", Cond.fieldLink RX1 20 "TideWords$Gates" "slacks" "LTideWords$Cells;", Cond.fieldLink RX1 23 "TideWords$Gates" "ways" "LTideWords$Cells;", Cond.fieldLink RX1 26 "TideWords$Gates" "shuts" "LTideWords$Cells;"]
def wsX6_copyInto_r3 : List Cond := [Cond.fieldLink RX1 29 "TideWords$Gates" "held" "LTideWords$Cells;", Cond.fieldLink RX1 32 "TideWords$Gates" "lettersDone" "LTideWords$Cells;", Cond.fieldLink RX1 35 "TideWords$Gates" "passedWords" "LTideWords$Cells;", Cond.fieldLink RX1 38 "TideWords$Gates" "vainLetters" "LTideWords$Cells;", Cond.methodLink RX1 65 yX0_copyFrom, Cond.methodLink RX5 141 yX4_copyFrom, Cond.instanceMethod yX4_copyFrom, Cond.selects RX4 yX4_copyFrom yX4_copyFrom, Cond.initialized RX4, Cond.code yX4_copyFrom cX4_copyFrom 2 none, Cond.fieldLink RX4 14 "TideWords$Words" "lengths" "LTideWords$Cells;", Cond.fieldLink RX4 20 "TideWords$Words" "letters" "LTideWords$Cells;", Cond.fieldLink RX4 23 "TideWords$Words" "passedSteps" "LTideWords$Cells;", Cond.fieldLink RX4 26 "TideWords$Words" "passedGates" "LTideWords$Cells;", Cond.fieldLink RX4 29 "TideWords$Words" "timesBack" "LTideWords$Cells;", Cond.fieldLink RX4 32 "TideWords$Words" "rows" "LTideWords$Cells;", Cond.fieldLink RX4 35 "TideWords$Words" "rowLengths" "LTideWords$Cells;", Cond.fieldLink RX4 38 "TideWords$Words" "total" "I", Cond.methodLink RX4 70 yX0_copyFrom]
def wsX6_copyInto : List Cond := .code yX6_copyInto cX6_copyInto 4 none :: ((wsX6_copyInto_r1 ++ (wsX6_copyInto_r2 ++ wsX6_copyInto_r3)) ++ wsX60 ++ wsX50 ++ wsX30 ++ wsX00 ++ wsX10 ++ wsX40)
def wsX6_record_r1 : List Cond := [Cond.fieldLink RX6 26 "TideWords" "history" "[LTideWords$World;", Cond.fieldLink RX6 259 "TideWords" "nextRecord" "I", Cond.fieldLink RX6 219 "TideWords" "records" "I", Cond.methodLink RX6 270 Lib.Math.min.name, Cond.static Lib.Math.min.name, Cond.initialized "java/lang/Math", Cond.code Lib.Math.min.name Lib.Math.min.code 2 (some .int), Cond.methodLink RX6 266 yX6_copyInto, Cond.instanceMethod yX6_copyInto, Cond.selects RX6 yX6_copyInto yX6_copyInto, Cond.initialized RX6, Cond.code yX6_copyInto cX6_copyInto 4 none, Cond.fieldLink RX6 10 "TideWords" "now" "LTideWords$World;", Cond.methodLink RX6 262 yX6_worldIn, Cond.static yX6_worldIn, Cond.code yX6_worldIn cX6_worldIn 2 (some (.object "TideWords$World")), Cond.methodLink RX6 228 yX5_copyFrom, Cond.instanceMethod yX5_copyFrom, Cond.selects RX5 yX5_copyFrom yX5_copyFrom, Cond.initialized RX5, Cond.code yX5_copyFrom cX5_copyFrom 2 none, Cond.fieldLink RX5 12 "TideWords$World" "tides" "LTideWords$Tides;", Cond.fieldLink RX5 21 "TideWords$World" "gates" "LTideWords$Gates;", Cond.fieldLink RX5 28 "TideWords$World" "words" "LTideWords$Words;"]
def wsX6_record_r2 : List Cond := [Cond.fieldLink RX5 40 "TideWords$World" "steps" "I", Cond.fieldLink RX5 93 "TideWords$World" "letters" "I", Cond.fieldLink RX5 67 "TideWords$World" "idleSteps" "I", Cond.methodLink RX5 134 yX3_copyFrom, Cond.instanceMethod yX3_copyFrom, Cond.selects RX3 yX3_copyFrom yX3_copyFrom, Cond.initialized RX3, Cond.code yX3_copyFrom cX3_copyFrom 2 none, Cond.fieldLink RX3 14 "TideWords$Tides" "means" "LTideWords$Cells;", Cond.fieldLink RX3 20 "TideWords$Tides" "swings" "LTideWords$Cells;", Cond.fieldLink RX3 23 "TideWords$Tides" "periods" "LTideWords$Cells;", Cond.fieldLink RX3 26 "TideWords$Tides" "lies" "LTideWords$Cells;", Cond.methodLink RX3 53 yX0_copyFrom, Cond.instanceMethod yX0_copyFrom, Cond.selects RX0 yX0_copyFrom yX0_copyFrom, Cond.initialized RX0, Cond.code yX0_copyFrom cX0_copyFrom 2 none, Cond.fieldLink RX0 13 "TideWords$Cells" "cells" "[I", Cond.methodLink RX0 19 Lib.Math.min.name, Cond.methodLink RX0 22 arraycopyName, Cond.native arraycopyName, Cond.static arraycopyName, Cond.initialized "java/lang/System", Cond.methodLink RX5 138 yX1_copyFrom]
def wsX6_record_r3 : List Cond := [Cond.instanceMethod yX1_copyFrom, Cond.selects RX1 yX1_copyFrom yX1_copyFrom, Cond.initialized RX1, Cond.code yX1_copyFrom cX1_copyFrom 2 none, Cond.fieldLink RX1 14 "TideWords$Gates" "sides" "LTideWords$Cells;", Cond.fieldLink RX1 20 "TideWords$Gates" "slacks" "LTideWords$Cells;", Cond.fieldLink RX1 23 "TideWords$Gates" "ways" "LTideWords$Cells;", Cond.fieldLink RX1 26 "TideWords$Gates" "shuts" "LTideWords$Cells;", Cond.fieldLink RX1 29 "TideWords$Gates" "held" "LTideWords$Cells;", Cond.fieldLink RX1 32 "TideWords$Gates" "lettersDone" "LTideWords$Cells;", Cond.fieldLink RX1 35 "TideWords$Gates" "passedWords" "LTideWords$Cells;", Cond.fieldLink RX1 38 "TideWords$Gates" "vainLetters" "LTideWords$Cells;", Cond.methodLink RX1 65 yX0_copyFrom, Cond.methodLink RX5 141 yX4_copyFrom, Cond.instanceMethod yX4_copyFrom, Cond.selects RX4 yX4_copyFrom yX4_copyFrom, Cond.initialized RX4, Cond.code yX4_copyFrom cX4_copyFrom 2 none, Cond.fieldLink RX4 14 "TideWords$Words" "lengths" "LTideWords$Cells;", Cond.fieldLink RX4 20 "TideWords$Words" "letters" "LTideWords$Cells;", Cond.fieldLink RX4 23 "TideWords$Words" "passedSteps" "LTideWords$Cells;", Cond.fieldLink RX4 26 "TideWords$Words" "passedGates" "LTideWords$Cells;", Cond.fieldLink RX4 29 "TideWords$Words" "timesBack" "LTideWords$Cells;", Cond.fieldLink RX4 32 "TideWords$Words" "rows" "LTideWords$Cells;"]
def wsX6_record_r4 : List Cond := [Cond.fieldLink RX4 35 "TideWords$Words" "rowLengths" "LTideWords$Cells;", Cond.fieldLink RX4 38 "TideWords$Words" "total" "I", Cond.methodLink RX4 70 yX0_copyFrom]
def wsX6_record : List Cond := .code yX6_record cX6_record 1 none :: ((wsX6_record_r1 ++ (wsX6_record_r2 ++ (wsX6_record_r3 ++ wsX6_record_r4))) ++ wsX60 ++ wsX50 ++ wsX30 ++ wsX00 ++ wsX10 ++ wsX40)
def wsX6_tide_r1 : List Cond := [Cond.fieldLink RX6 10 "TideWords" "now" "LTideWords$World;", Cond.fieldLink RX6 56 "TideWords$World" "tides" "LTideWords$Tides;", Cond.fieldLink RX6 66 "TideWords$World" "steps" "I", Cond.methodLink RX6 45 yX6_isStore, Cond.static yX6_isStore, Cond.initialized RX6, Cond.code yX6_isStore cX6_isStore 1 (some .boolean), Cond.methodLink RX6 49 yX6_isWithin, Cond.static yX6_isWithin, Cond.code yX6_isWithin cX6_isWithin 3 (some .boolean), Cond.methodLink RX6 53 yX6_record, Cond.instanceMethod yX6_record, Cond.selects RX6 yX6_record yX6_record, Cond.code yX6_record cX6_record 1 none, Cond.fieldLink RX6 26 "TideWords" "history" "[LTideWords$World;", Cond.fieldLink RX6 259 "TideWords" "nextRecord" "I", Cond.fieldLink RX6 219 "TideWords" "records" "I", Cond.methodLink RX6 270 Lib.Math.min.name, Cond.static Lib.Math.min.name, Cond.initialized "java/lang/Math", Cond.code Lib.Math.min.name Lib.Math.min.code 2 (some .int), Cond.methodLink RX6 266 yX6_copyInto, Cond.instanceMethod yX6_copyInto, Cond.selects RX6 yX6_copyInto yX6_copyInto]
def wsX6_tide_r2 : List Cond := [Cond.code yX6_copyInto cX6_copyInto 4 none, Cond.methodLink RX6 262 yX6_worldIn, Cond.static yX6_worldIn, Cond.code yX6_worldIn cX6_worldIn 2 (some (.object "TideWords$World")), Cond.methodLink RX6 228 yX5_copyFrom, Cond.instanceMethod yX5_copyFrom, Cond.selects RX5 yX5_copyFrom yX5_copyFrom, Cond.initialized RX5, Cond.code yX5_copyFrom cX5_copyFrom 2 none, Cond.fieldLink RX5 12 "TideWords$World" "tides" "LTideWords$Tides;", Cond.fieldLink RX5 21 "TideWords$World" "gates" "LTideWords$Gates;", Cond.fieldLink RX5 28 "TideWords$World" "words" "LTideWords$Words;", Cond.fieldLink RX5 40 "TideWords$World" "steps" "I", Cond.fieldLink RX5 93 "TideWords$World" "letters" "I", Cond.fieldLink RX5 67 "TideWords$World" "idleSteps" "I", Cond.methodLink RX5 134 yX3_copyFrom, Cond.instanceMethod yX3_copyFrom, Cond.selects RX3 yX3_copyFrom yX3_copyFrom, Cond.initialized RX3, Cond.code yX3_copyFrom cX3_copyFrom 2 none, Cond.fieldLink RX3 14 "TideWords$Tides" "means" "LTideWords$Cells;", Cond.fieldLink RX3 20 "TideWords$Tides" "swings" "LTideWords$Cells;", Cond.fieldLink RX3 23 "TideWords$Tides" "periods" "LTideWords$Cells;", Cond.fieldLink RX3 26 "TideWords$Tides" "lies" "LTideWords$Cells;"]
def wsX6_tide_r3 : List Cond := [Cond.methodLink RX3 53 yX0_copyFrom, Cond.instanceMethod yX0_copyFrom, Cond.selects RX0 yX0_copyFrom yX0_copyFrom, Cond.initialized RX0, Cond.code yX0_copyFrom cX0_copyFrom 2 none, Cond.fieldLink RX0 13 "TideWords$Cells" "cells" "[I", Cond.methodLink RX0 19 Lib.Math.min.name, Cond.methodLink RX0 22 arraycopyName, Cond.native arraycopyName, Cond.static arraycopyName, Cond.initialized "java/lang/System", Cond.methodLink RX5 138 yX1_copyFrom, Cond.instanceMethod yX1_copyFrom, Cond.selects RX1 yX1_copyFrom yX1_copyFrom, Cond.initialized RX1, Cond.code yX1_copyFrom cX1_copyFrom 2 none, Cond.fieldLink RX1 14 "TideWords$Gates" "sides" "LTideWords$Cells;", Cond.fieldLink RX1 20 "TideWords$Gates" "slacks" "LTideWords$Cells;", Cond.fieldLink RX1 23 "TideWords$Gates" "ways" "LTideWords$Cells;", Cond.fieldLink RX1 26 "TideWords$Gates" "shuts" "LTideWords$Cells;", Cond.fieldLink RX1 29 "TideWords$Gates" "held" "LTideWords$Cells;", Cond.fieldLink RX1 32 "TideWords$Gates" "lettersDone" "LTideWords$Cells;", Cond.fieldLink RX1 35 "TideWords$Gates" "passedWords" "LTideWords$Cells;", Cond.fieldLink RX1 38 "TideWords$Gates" "vainLetters" "LTideWords$Cells;"]
def wsX6_tide_r4 : List Cond := [Cond.methodLink RX1 65 yX0_copyFrom, Cond.methodLink RX5 141 yX4_copyFrom, Cond.instanceMethod yX4_copyFrom, Cond.selects RX4 yX4_copyFrom yX4_copyFrom, Cond.initialized RX4, Cond.code yX4_copyFrom cX4_copyFrom 2 none, Cond.fieldLink RX4 14 "TideWords$Words" "lengths" "LTideWords$Cells;", Cond.fieldLink RX4 20 "TideWords$Words" "letters" "LTideWords$Cells;", Cond.fieldLink RX4 23 "TideWords$Words" "passedSteps" "LTideWords$Cells;", Cond.fieldLink RX4 26 "TideWords$Words" "passedGates" "LTideWords$Cells;", Cond.fieldLink RX4 29 "TideWords$Words" "timesBack" "LTideWords$Cells;", Cond.fieldLink RX4 32 "TideWords$Words" "rows" "LTideWords$Cells;", Cond.fieldLink RX4 35 "TideWords$Words" "rowLengths" "LTideWords$Cells;", Cond.fieldLink RX4 38 "TideWords$Words" "total" "I", Cond.methodLink RX4 70 yX0_copyFrom, Cond.methodLink RX6 60 yX3_change, Cond.instanceMethod yX3_change, Cond.selects RX3 yX3_change yX3_change, Cond.code yX3_change cX3_change 5 none, Cond.methodLink RX3 33 yX0_set, Cond.instanceMethod yX0_set, Cond.selects RX0 yX0_set yX0_set, Cond.code yX0_set cX0_set 3 none, Cond.methodLink RX6 70 yX3_levelAt]
def wsX6_tide_r5 : List Cond := [Cond.instanceMethod yX3_levelAt, Cond.selects RX3 yX3_levelAt yX3_levelAt, Cond.code yX3_levelAt cX3_levelAt 6 (some .int), Cond.methodLink RX3 41 Lib.Math.min.name, Cond.methodLink RX3 37 yX0_get, Cond.instanceMethod yX0_get, Cond.selects RX0 yX0_get yX0_get, Cond.code yX0_get cX0_get 2 (some .int)]
def wsX6_tide : List Cond := .code yX6_tide cX6_tide 5 (some .int) :: ((wsX6_tide_r1 ++ (wsX6_tide_r2 ++ (wsX6_tide_r3 ++ (wsX6_tide_r4 ++ wsX6_tide_r5)))) ++ wsX60 ++ wsX50 ++ wsX30 ++ wsX00 ++ wsX10 ++ wsX40)
def wsX6_gauge_r1 : List Cond := [Cond.fieldLink RX6 10 "TideWords" "now" "LTideWords$World;", Cond.fieldLink RX6 56 "TideWords$World" "tides" "LTideWords$Tides;", Cond.fieldLink RX6 74 "TideWords$Tides" "lies" "LTideWords$Cells;", Cond.methodLink RX6 45 yX6_isStore, Cond.static yX6_isStore, Cond.initialized RX6, Cond.code yX6_isStore cX6_isStore 1 (some .boolean), Cond.methodLink RX6 49 yX6_isWithin, Cond.static yX6_isWithin, Cond.code yX6_isWithin cX6_isWithin 3 (some .boolean), Cond.methodLink RX6 53 yX6_record, Cond.instanceMethod yX6_record, Cond.selects RX6 yX6_record yX6_record, Cond.code yX6_record cX6_record 1 none, Cond.fieldLink RX6 26 "TideWords" "history" "[LTideWords$World;", Cond.fieldLink RX6 259 "TideWords" "nextRecord" "I", Cond.fieldLink RX6 219 "TideWords" "records" "I", Cond.methodLink RX6 270 Lib.Math.min.name, Cond.static Lib.Math.min.name, Cond.initialized "java/lang/Math", Cond.code Lib.Math.min.name Lib.Math.min.code 2 (some .int), Cond.methodLink RX6 266 yX6_copyInto, Cond.instanceMethod yX6_copyInto, Cond.selects RX6 yX6_copyInto yX6_copyInto]
def wsX6_gauge_r2 : List Cond := [Cond.code yX6_copyInto cX6_copyInto 4 none, Cond.methodLink RX6 262 yX6_worldIn, Cond.static yX6_worldIn, Cond.code yX6_worldIn cX6_worldIn 2 (some (.object "TideWords$World")), Cond.methodLink RX6 228 yX5_copyFrom, Cond.instanceMethod yX5_copyFrom, Cond.selects RX5 yX5_copyFrom yX5_copyFrom, Cond.initialized RX5, Cond.code yX5_copyFrom cX5_copyFrom 2 none, Cond.fieldLink RX5 12 "TideWords$World" "tides" "LTideWords$Tides;", Cond.fieldLink RX5 21 "TideWords$World" "gates" "LTideWords$Gates;", Cond.fieldLink RX5 28 "TideWords$World" "words" "LTideWords$Words;", Cond.fieldLink RX5 40 "TideWords$World" "steps" "I", Cond.fieldLink RX5 93 "TideWords$World" "letters" "I", Cond.fieldLink RX5 67 "TideWords$World" "idleSteps" "I", Cond.methodLink RX5 134 yX3_copyFrom, Cond.instanceMethod yX3_copyFrom, Cond.selects RX3 yX3_copyFrom yX3_copyFrom, Cond.initialized RX3, Cond.code yX3_copyFrom cX3_copyFrom 2 none, Cond.fieldLink RX3 14 "TideWords$Tides" "means" "LTideWords$Cells;", Cond.fieldLink RX3 20 "TideWords$Tides" "swings" "LTideWords$Cells;", Cond.fieldLink RX3 23 "TideWords$Tides" "periods" "LTideWords$Cells;", Cond.fieldLink RX3 26 "TideWords$Tides" "lies" "LTideWords$Cells;"]
def wsX6_gauge_r3 : List Cond := [Cond.methodLink RX3 53 yX0_copyFrom, Cond.instanceMethod yX0_copyFrom, Cond.selects RX0 yX0_copyFrom yX0_copyFrom, Cond.initialized RX0, Cond.code yX0_copyFrom cX0_copyFrom 2 none, Cond.fieldLink RX0 13 "TideWords$Cells" "cells" "[I", Cond.methodLink RX0 19 Lib.Math.min.name, Cond.methodLink RX0 22 arraycopyName, Cond.native arraycopyName, Cond.static arraycopyName, Cond.initialized "java/lang/System", Cond.methodLink RX5 138 yX1_copyFrom, Cond.instanceMethod yX1_copyFrom, Cond.selects RX1 yX1_copyFrom yX1_copyFrom, Cond.initialized RX1, Cond.code yX1_copyFrom cX1_copyFrom 2 none, Cond.fieldLink RX1 14 "TideWords$Gates" "sides" "LTideWords$Cells;", Cond.fieldLink RX1 20 "TideWords$Gates" "slacks" "LTideWords$Cells;", Cond.fieldLink RX1 23 "TideWords$Gates" "ways" "LTideWords$Cells;", Cond.fieldLink RX1 26 "TideWords$Gates" "shuts" "LTideWords$Cells;", Cond.fieldLink RX1 29 "TideWords$Gates" "held" "LTideWords$Cells;", Cond.fieldLink RX1 32 "TideWords$Gates" "lettersDone" "LTideWords$Cells;", Cond.fieldLink RX1 35 "TideWords$Gates" "passedWords" "LTideWords$Cells;", Cond.fieldLink RX1 38 "TideWords$Gates" "vainLetters" "LTideWords$Cells;"]
def wsX6_gauge_r4 : List Cond := [Cond.methodLink RX1 65 yX0_copyFrom, Cond.methodLink RX5 141 yX4_copyFrom, Cond.instanceMethod yX4_copyFrom, Cond.selects RX4 yX4_copyFrom yX4_copyFrom, Cond.initialized RX4, Cond.code yX4_copyFrom cX4_copyFrom 2 none, Cond.fieldLink RX4 14 "TideWords$Words" "lengths" "LTideWords$Cells;", Cond.fieldLink RX4 20 "TideWords$Words" "letters" "LTideWords$Cells;", Cond.fieldLink RX4 23 "TideWords$Words" "passedSteps" "LTideWords$Cells;", Cond.fieldLink RX4 26 "TideWords$Words" "passedGates" "LTideWords$Cells;", Cond.fieldLink RX4 29 "TideWords$Words" "timesBack" "LTideWords$Cells;", Cond.fieldLink RX4 32 "TideWords$Words" "rows" "LTideWords$Cells;", Cond.fieldLink RX4 35 "TideWords$Words" "rowLengths" "LTideWords$Cells;", Cond.fieldLink RX4 38 "TideWords$Words" "total" "I", Cond.methodLink RX4 70 yX0_copyFrom, Cond.methodLink RX6 77 yX0_get, Cond.instanceMethod yX0_get, Cond.selects RX0 yX0_get yX0_get, Cond.code yX0_get cX0_get 2 (some .int), Cond.methodLink RX6 81 yX0_set, Cond.instanceMethod yX0_set, Cond.selects RX0 yX0_set yX0_set, Cond.code yX0_set cX0_set 3 none]
def wsX6_gauge : List Cond := .code yX6_gauge cX6_gauge 4 (some .int) :: ((wsX6_gauge_r1 ++ (wsX6_gauge_r2 ++ (wsX6_gauge_r3 ++ wsX6_gauge_r4))) ++ wsX60 ++ wsX50 ++ wsX30 ++ wsX00 ++ wsX10 ++ wsX40)
def wsX6_isGate : List Cond := .code yX6_isGate cX6_isGate 1 (some .boolean) :: ([.methodLink RX6 49 yX6_isWithin, .static yX6_isWithin, .initialized RX6, .code yX6_isWithin cX6_isWithin 3 (some .boolean)])
def wsX6_gate_r1 : List Cond := [Cond.fieldLink RX6 10 "TideWords" "now" "LTideWords$World;", Cond.fieldLink RX6 88 "TideWords$World" "gates" "LTideWords$Gates;", Cond.fieldLink RX6 97 "TideWords$Gates" "sides" "LTideWords$Cells;", Cond.fieldLink RX6 100 "TideWords$Gates" "slacks" "LTideWords$Cells;", Cond.methodLink RX6 85 yX6_isGate, Cond.static yX6_isGate, Cond.initialized RX6, Cond.code yX6_isGate cX6_isGate 1 (some .boolean), Cond.methodLink RX6 49 yX6_isWithin, Cond.static yX6_isWithin, Cond.code yX6_isWithin cX6_isWithin 3 (some .boolean), Cond.methodLink RX6 92 yX1_hasWord, Cond.instanceMethod yX1_hasWord, Cond.selects RX1 yX1_hasWord yX1_hasWord, Cond.initialized RX1, Cond.code yX1_hasWord cX1_hasWord 2 (some .boolean), Cond.fieldLink RX1 29 "TideWords$Gates" "held" "LTideWords$Cells;", Cond.methodLink RX1 49 yX0_get, Cond.instanceMethod yX0_get, Cond.selects RX0 yX0_get yX0_get, Cond.initialized RX0, Cond.code yX0_get cX0_get 2 (some .int), Cond.fieldLink RX0 13 "TideWords$Cells" "cells" "[I", Cond.methodLink RX6 77 yX0_get]
def wsX6_gate_r2 : List Cond := [Cond.methodLink RX6 53 yX6_record, Cond.instanceMethod yX6_record, Cond.selects RX6 yX6_record yX6_record, Cond.code yX6_record cX6_record 1 none, Cond.fieldLink RX6 26 "TideWords" "history" "[LTideWords$World;", Cond.fieldLink RX6 259 "TideWords" "nextRecord" "I", Cond.fieldLink RX6 219 "TideWords" "records" "I", Cond.methodLink RX6 270 Lib.Math.min.name, Cond.static Lib.Math.min.name, Cond.initialized "java/lang/Math", Cond.code Lib.Math.min.name Lib.Math.min.code 2 (some .int), Cond.methodLink RX6 266 yX6_copyInto, Cond.instanceMethod yX6_copyInto, Cond.selects RX6 yX6_copyInto yX6_copyInto, Cond.code yX6_copyInto cX6_copyInto 4 none, Cond.methodLink RX6 262 yX6_worldIn, Cond.static yX6_worldIn, Cond.code yX6_worldIn cX6_worldIn 2 (some (.object "TideWords$World")), Cond.methodLink RX6 228 yX5_copyFrom, Cond.instanceMethod yX5_copyFrom, Cond.selects RX5 yX5_copyFrom yX5_copyFrom, Cond.initialized RX5, Cond.code yX5_copyFrom cX5_copyFrom 2 none, Cond.fieldLink RX5 12 "TideWords$World" "tides" "LTideWords$Tides;"]
def wsX6_gate_r3 : List Cond := [Cond.fieldLink RX5 21 "TideWords$World" "gates" "LTideWords$Gates;", Cond.fieldLink RX5 28 "TideWords$World" "words" "LTideWords$Words;", Cond.fieldLink RX5 40 "TideWords$World" "steps" "I", Cond.fieldLink RX5 93 "TideWords$World" "letters" "I", Cond.fieldLink RX5 67 "TideWords$World" "idleSteps" "I", Cond.methodLink RX5 134 yX3_copyFrom, Cond.instanceMethod yX3_copyFrom, Cond.selects RX3 yX3_copyFrom yX3_copyFrom, Cond.initialized RX3, Cond.code yX3_copyFrom cX3_copyFrom 2 none, Cond.fieldLink RX3 14 "TideWords$Tides" "means" "LTideWords$Cells;", Cond.fieldLink RX3 20 "TideWords$Tides" "swings" "LTideWords$Cells;", Cond.fieldLink RX3 23 "TideWords$Tides" "periods" "LTideWords$Cells;", Cond.fieldLink RX3 26 "TideWords$Tides" "lies" "LTideWords$Cells;", Cond.methodLink RX3 53 yX0_copyFrom, Cond.instanceMethod yX0_copyFrom, Cond.selects RX0 yX0_copyFrom yX0_copyFrom, Cond.code yX0_copyFrom cX0_copyFrom 2 none, Cond.methodLink RX0 19 Lib.Math.min.name, Cond.methodLink RX0 22 arraycopyName, Cond.native arraycopyName, Cond.static arraycopyName, Cond.initialized "java/lang/System", Cond.methodLink RX5 138 yX1_copyFrom]
def wsX6_gate_r4 : List Cond := [Cond.instanceMethod yX1_copyFrom, Cond.selects RX1 yX1_copyFrom yX1_copyFrom, Cond.code yX1_copyFrom cX1_copyFrom 2 none, Cond.fieldLink RX1 14 "TideWords$Gates" "sides" "LTideWords$Cells;", Cond.fieldLink RX1 20 "TideWords$Gates" "slacks" "LTideWords$Cells;", Cond.fieldLink RX1 23 "TideWords$Gates" "ways" "LTideWords$Cells;", Cond.fieldLink RX1 26 "TideWords$Gates" "shuts" "LTideWords$Cells;", Cond.fieldLink RX1 32 "TideWords$Gates" "lettersDone" "LTideWords$Cells;", Cond.fieldLink RX1 35 "TideWords$Gates" "passedWords" "LTideWords$Cells;", Cond.fieldLink RX1 38 "TideWords$Gates" "vainLetters" "LTideWords$Cells;", Cond.methodLink RX1 65 yX0_copyFrom, Cond.methodLink RX5 141 yX4_copyFrom, Cond.instanceMethod yX4_copyFrom, Cond.selects RX4 yX4_copyFrom yX4_copyFrom, Cond.initialized RX4, Cond.code yX4_copyFrom cX4_copyFrom 2 none, Cond.fieldLink RX4 14 "TideWords$Words" "lengths" "LTideWords$Cells;", Cond.fieldLink RX4 20 "TideWords$Words" "letters" "LTideWords$Cells;", Cond.fieldLink RX4 23 "TideWords$Words" "passedSteps" "LTideWords$Cells;", Cond.fieldLink RX4 26 "TideWords$Words" "passedGates" "LTideWords$Cells;", Cond.fieldLink RX4 29 "TideWords$Words" "timesBack" "LTideWords$Cells;", Cond.fieldLink RX4 32 "TideWords$Words" "rows" "LTideWords$Cells;", Cond.fieldLink RX4 35 "TideWords$Words" "rowLengths" "LTideWords$Cells;", Cond.fieldLink RX4 38 "TideWords$Words" "total" "I"]
def wsX6_gate_r5 : List Cond := [Cond.methodLink RX4 70 yX0_copyFrom, Cond.methodLink RX6 103 yX1_change, Cond.instanceMethod yX1_change, Cond.selects RX1 yX1_change yX1_change, Cond.code yX1_change cX1_change 5 none, Cond.methodLink RX1 45 yX0_set, Cond.instanceMethod yX0_set, Cond.selects RX0 yX0_set yX0_set, Cond.code yX0_set cX0_set 3 none]
def wsX6_gate : List Cond := .code yX6_gate cX6_gate 6 (some .int) :: ((wsX6_gate_r1 ++ (wsX6_gate_r2 ++ (wsX6_gate_r3 ++ (wsX6_gate_r4 ++ wsX6_gate_r5)))) ++ wsX60 ++ wsX50 ++ wsX10 ++ wsX00 ++ wsX30 ++ wsX40)
def wsX6_shut_r1 : List Cond := [Cond.fieldLink RX6 10 "TideWords" "now" "LTideWords$World;", Cond.fieldLink RX6 88 "TideWords$World" "gates" "LTideWords$Gates;", Cond.fieldLink RX6 107 "TideWords$Gates" "shuts" "LTideWords$Cells;", Cond.methodLink RX6 85 yX6_isGate, Cond.static yX6_isGate, Cond.initialized RX6, Cond.code yX6_isGate cX6_isGate 1 (some .boolean), Cond.methodLink RX6 49 yX6_isWithin, Cond.static yX6_isWithin, Cond.code yX6_isWithin cX6_isWithin 3 (some .boolean), Cond.methodLink RX6 104 yX1_isShut, Cond.instanceMethod yX1_isShut, Cond.selects RX1 yX1_isShut yX1_isShut, Cond.initialized RX1, Cond.code yX1_isShut cX1_isShut 2 (some .boolean), Cond.fieldLink RX1 26 "TideWords$Gates" "shuts" "LTideWords$Cells;", Cond.methodLink RX1 49 yX0_get, Cond.instanceMethod yX0_get, Cond.selects RX0 yX0_get yX0_get, Cond.initialized RX0, Cond.code yX0_get cX0_get 2 (some .int), Cond.fieldLink RX0 13 "TideWords$Cells" "cells" "[I", Cond.methodLink RX6 53 yX6_record, Cond.instanceMethod yX6_record]
def wsX6_shut_r2 : List Cond := [Cond.selects RX6 yX6_record yX6_record, Cond.code yX6_record cX6_record 1 none, Cond.fieldLink RX6 26 "TideWords" "history" "[LTideWords$World;", Cond.fieldLink RX6 259 "TideWords" "nextRecord" "I", Cond.fieldLink RX6 219 "TideWords" "records" "I", Cond.methodLink RX6 270 Lib.Math.min.name, Cond.static Lib.Math.min.name, Cond.initialized "java/lang/Math", Cond.code Lib.Math.min.name Lib.Math.min.code 2 (some .int), Cond.methodLink RX6 266 yX6_copyInto, Cond.instanceMethod yX6_copyInto, Cond.selects RX6 yX6_copyInto yX6_copyInto, Cond.code yX6_copyInto cX6_copyInto 4 none, Cond.methodLink RX6 262 yX6_worldIn, Cond.static yX6_worldIn, Cond.code yX6_worldIn cX6_worldIn 2 (some (.object "TideWords$World")), Cond.methodLink RX6 228 yX5_copyFrom, Cond.instanceMethod yX5_copyFrom, Cond.selects RX5 yX5_copyFrom yX5_copyFrom, Cond.initialized RX5, Cond.code yX5_copyFrom cX5_copyFrom 2 none, Cond.fieldLink RX5 12 "TideWords$World" "tides" "LTideWords$Tides;", Cond.fieldLink RX5 21 "TideWords$World" "gates" "LTideWords$Gates;", Cond.fieldLink RX5 28 "TideWords$World" "words" "LTideWords$Words;"]
def wsX6_shut_r3 : List Cond := [Cond.fieldLink RX5 40 "TideWords$World" "steps" "I", Cond.fieldLink RX5 93 "TideWords$World" "letters" "I", Cond.fieldLink RX5 67 "TideWords$World" "idleSteps" "I", Cond.methodLink RX5 134 yX3_copyFrom, Cond.instanceMethod yX3_copyFrom, Cond.selects RX3 yX3_copyFrom yX3_copyFrom, Cond.initialized RX3, Cond.code yX3_copyFrom cX3_copyFrom 2 none, Cond.fieldLink RX3 14 "TideWords$Tides" "means" "LTideWords$Cells;", Cond.fieldLink RX3 20 "TideWords$Tides" "swings" "LTideWords$Cells;", Cond.fieldLink RX3 23 "TideWords$Tides" "periods" "LTideWords$Cells;", Cond.fieldLink RX3 26 "TideWords$Tides" "lies" "LTideWords$Cells;", Cond.methodLink RX3 53 yX0_copyFrom, Cond.instanceMethod yX0_copyFrom, Cond.selects RX0 yX0_copyFrom yX0_copyFrom, Cond.code yX0_copyFrom cX0_copyFrom 2 none, Cond.methodLink RX0 19 Lib.Math.min.name, Cond.methodLink RX0 22 arraycopyName, Cond.native arraycopyName, Cond.static arraycopyName, Cond.initialized "java/lang/System", Cond.methodLink RX5 138 yX1_copyFrom, Cond.instanceMethod yX1_copyFrom, Cond.selects RX1 yX1_copyFrom yX1_copyFrom]
def wsX6_shut_r4 : List Cond := [Cond.code yX1_copyFrom cX1_copyFrom 2 none, Cond.fieldLink RX1 14 "TideWords$Gates" "sides" "LTideWords$Cells;", Cond.fieldLink RX1 20 "TideWords$Gates" "slacks" "LTideWords$Cells;", Cond.fieldLink RX1 23 "TideWords$Gates" "ways" "LTideWords$Cells;", Cond.fieldLink RX1 29 "TideWords$Gates" "held" "LTideWords$Cells;", Cond.fieldLink RX1 32 "TideWords$Gates" "lettersDone" "LTideWords$Cells;", Cond.fieldLink RX1 35 "TideWords$Gates" "passedWords" "LTideWords$Cells;", Cond.fieldLink RX1 38 "TideWords$Gates" "vainLetters" "LTideWords$Cells;", Cond.methodLink RX1 65 yX0_copyFrom, Cond.methodLink RX5 141 yX4_copyFrom, Cond.instanceMethod yX4_copyFrom, Cond.selects RX4 yX4_copyFrom yX4_copyFrom, Cond.initialized RX4, Cond.code yX4_copyFrom cX4_copyFrom 2 none, Cond.fieldLink RX4 14 "TideWords$Words" "lengths" "LTideWords$Cells;", Cond.fieldLink RX4 20 "TideWords$Words" "letters" "LTideWords$Cells;", Cond.fieldLink RX4 23 "TideWords$Words" "passedSteps" "LTideWords$Cells;", Cond.fieldLink RX4 26 "TideWords$Words" "passedGates" "LTideWords$Cells;", Cond.fieldLink RX4 29 "TideWords$Words" "timesBack" "LTideWords$Cells;", Cond.fieldLink RX4 32 "TideWords$Words" "rows" "LTideWords$Cells;", Cond.fieldLink RX4 35 "TideWords$Words" "rowLengths" "LTideWords$Cells;", Cond.fieldLink RX4 38 "TideWords$Words" "total" "I", Cond.methodLink RX4 70 yX0_copyFrom, Cond.methodLink RX6 81 yX0_set]
def wsX6_shut_r5 : List Cond := [Cond.instanceMethod yX0_set, Cond.selects RX0 yX0_set yX0_set, Cond.code yX0_set cX0_set 3 none, Cond.methodLink RX6 110 yX0_sum, Cond.instanceMethod yX0_sum, Cond.selects RX0 yX0_sum yX0_sum, Cond.code yX0_sum cX0_sum 3 (some .int)]
def wsX6_shut : List Cond := .code yX6_shut cX6_shut 3 (some .int) :: ((wsX6_shut_r1 ++ (wsX6_shut_r2 ++ (wsX6_shut_r3 ++ (wsX6_shut_r4 ++ wsX6_shut_r5)))) ++ wsX60 ++ wsX50 ++ wsX10 ++ wsX00 ++ wsX30 ++ wsX40)
def wsX6_bringWords_r1 : List Cond := [Cond.fieldLink RX6 10 "TideWords" "now" "LTideWords$World;", Cond.fieldLink RX6 117 "TideWords$World" "words" "LTideWords$Words;", Cond.fieldLink RX6 22 "TideWords" "pad" "LTideWords$Pad;", Cond.fieldLink RX6 132 "TideWords$Pad" "length" "I", Cond.fieldLink RX6 278 "TideWords$Pad" "codes" "LTideWords$Cells;", Cond.methodLink RX6 275 yX4_startWord, Cond.instanceMethod yX4_startWord, Cond.selects RX4 yX4_startWord yX4_startWord, Cond.initialized RX4, Cond.code yX4_startWord cX4_startWord 3 none, Cond.fieldLink RX4 38 "TideWords$Words" "total" "I", Cond.fieldLink RX4 14 "TideWords$Words" "lengths" "LTideWords$Cells;", Cond.fieldLink RX4 23 "TideWords$Words" "passedSteps" "LTideWords$Cells;", Cond.fieldLink RX4 26 "TideWords$Words" "passedGates" "LTideWords$Cells;", Cond.methodLink RX4 42 yX0_set, Cond.instanceMethod yX0_set, Cond.selects RX0 yX0_set yX0_set, Cond.initialized RX0, Cond.code yX0_set cX0_set 3 none, Cond.fieldLink RX0 13 "TideWords$Cells" "cells" "[I", Cond.methodLink RX4 46 yX4_addLast, Cond.instanceMethod yX4_addLast, Cond.selects RX4 yX4_addLast yX4_addLast, Cond.code yX4_addLast cX4_addLast 4 none]
def wsX6_bringWords_r2 : List Cond := [Cond.fieldLink RX4 35 "TideWords$Words" "rowLengths" "LTideWords$Cells;", Cond.fieldLink RX4 32 "TideWords$Words" "rows" "LTideWords$Cells;", Cond.methodLink RX4 49 yX0_get, Cond.instanceMethod yX0_get, Cond.selects RX0 yX0_get yX0_get, Cond.code yX0_get cX0_get 2 (some .int), Cond.methodLink RX6 77 yX0_get, Cond.methodLink RX6 281 yX4_addLetter, Cond.instanceMethod yX4_addLetter, Cond.selects RX4 yX4_addLetter yX4_addLetter, Cond.code yX4_addLetter cX4_addLetter 4 none, Cond.fieldLink RX4 20 "TideWords$Words" "letters" "LTideWords$Cells;", Cond.methodLink RX4 53 yX0_add, Cond.instanceMethod yX0_add, Cond.selects RX0 yX0_add yX0_add, Cond.code yX0_add cX0_add 3 none]
def wsX6_bringWords : List Cond := .code yX6_bringWords cX6_bringWords 4 none :: ((wsX6_bringWords_r1 ++ wsX6_bringWords_r2) ++ wsX60 ++ wsX50 ++ wsX20 ++ wsX40 ++ wsX00)
def wsX6_put_r1 : List Cond := [Cond.fieldLink RX6 22 "TideWords" "pad" "LTideWords$Pad;", Cond.fieldLink RX6 10 "TideWords" "now" "LTideWords$World;", Cond.fieldLink RX6 117 "TideWords$World" "words" "LTideWords$Words;", Cond.fieldLink RX6 121 "TideWords$Words" "total" "I", Cond.fieldLink RX6 132 "TideWords$Pad" "length" "I", Cond.methodLink RX6 45 yX6_isStore, Cond.static yX6_isStore, Cond.initialized RX6, Cond.code yX6_isStore cX6_isStore 1 (some .boolean), Cond.methodLink RX6 49 yX6_isWithin, Cond.static yX6_isWithin, Cond.code yX6_isWithin cX6_isWithin 3 (some .boolean), Cond.methodLink RX6 114 yX2_faultPlace, Cond.instanceMethod yX2_faultPlace, Cond.selects RX2 yX2_faultPlace yX2_faultPlace, Cond.initialized RX2, Cond.code yX2_faultPlace cX2_faultPlace 6 (some .int), Cond.fieldLink RX2 20 "TideWords$Pad" "length" "I", Cond.fieldLink RX2 14 "TideWords$Pad" "codes" "LTideWords$Cells;", Cond.methodLink RX2 28 yX0_get, Cond.instanceMethod yX0_get, Cond.selects RX0 yX0_get yX0_get, Cond.initialized RX0, Cond.code yX0_get cX0_get 2 (some .int)]
def wsX6_put_r2 : List Cond := [Cond.fieldLink RX0 13 "TideWords$Cells" "cells" "[I", Cond.methodLink RX6 126 yX2_wordsInside, Cond.instanceMethod yX2_wordsInside, Cond.selects RX2 yX2_wordsInside yX2_wordsInside, Cond.code yX2_wordsInside cX2_wordsInside 3 (some .int), Cond.methodLink RX6 53 yX6_record, Cond.instanceMethod yX6_record, Cond.selects RX6 yX6_record yX6_record, Cond.code yX6_record cX6_record 1 none, Cond.fieldLink RX6 26 "TideWords" "history" "[LTideWords$World;", Cond.fieldLink RX6 259 "TideWords" "nextRecord" "I", Cond.fieldLink RX6 219 "TideWords" "records" "I", Cond.methodLink RX6 270 Lib.Math.min.name, Cond.static Lib.Math.min.name, Cond.initialized "java/lang/Math", Cond.code Lib.Math.min.name Lib.Math.min.code 2 (some .int), Cond.methodLink RX6 266 yX6_copyInto, Cond.instanceMethod yX6_copyInto, Cond.selects RX6 yX6_copyInto yX6_copyInto, Cond.code yX6_copyInto cX6_copyInto 4 none, Cond.methodLink RX6 262 yX6_worldIn, Cond.static yX6_worldIn, Cond.code yX6_worldIn cX6_worldIn 2 (some (.object "TideWords$World")), Cond.methodLink RX6 228 yX5_copyFrom]
def wsX6_put_r3 : List Cond := [Cond.instanceMethod yX5_copyFrom, Cond.selects RX5 yX5_copyFrom yX5_copyFrom, Cond.initialized RX5, Cond.code yX5_copyFrom cX5_copyFrom 2 none, Cond.fieldLink RX5 12 "TideWords$World" "tides" "LTideWords$Tides;", Cond.fieldLink RX5 21 "TideWords$World" "gates" "LTideWords$Gates;", Cond.fieldLink RX5 28 "TideWords$World" "words" "LTideWords$Words;", Cond.fieldLink RX5 40 "TideWords$World" "steps" "I", Cond.fieldLink RX5 93 "TideWords$World" "letters" "I", Cond.fieldLink RX5 67 "TideWords$World" "idleSteps" "I", Cond.methodLink RX5 134 yX3_copyFrom, Cond.instanceMethod yX3_copyFrom, Cond.selects RX3 yX3_copyFrom yX3_copyFrom, Cond.initialized RX3, Cond.code yX3_copyFrom cX3_copyFrom 2 none, Cond.fieldLink RX3 14 "TideWords$Tides" "means" "LTideWords$Cells;", Cond.fieldLink RX3 20 "TideWords$Tides" "swings" "LTideWords$Cells;", Cond.fieldLink RX3 23 "TideWords$Tides" "periods" "LTideWords$Cells;", Cond.fieldLink RX3 26 "TideWords$Tides" "lies" "LTideWords$Cells;", Cond.methodLink RX3 53 yX0_copyFrom, Cond.instanceMethod yX0_copyFrom, Cond.selects RX0 yX0_copyFrom yX0_copyFrom, Cond.code yX0_copyFrom cX0_copyFrom 2 none, Cond.methodLink RX0 19 Lib.Math.min.name]
def wsX6_put_r4 : List Cond := [Cond.methodLink RX0 22 arraycopyName, Cond.native arraycopyName, Cond.static arraycopyName, Cond.initialized "java/lang/System", Cond.methodLink RX5 138 yX1_copyFrom, Cond.instanceMethod yX1_copyFrom, Cond.selects RX1 yX1_copyFrom yX1_copyFrom, Cond.initialized RX1, Cond.code yX1_copyFrom cX1_copyFrom 2 none, Cond.fieldLink RX1 14 "TideWords$Gates" "sides" "LTideWords$Cells;", Cond.fieldLink RX1 20 "TideWords$Gates" "slacks" "LTideWords$Cells;", Cond.fieldLink RX1 23 "TideWords$Gates" "ways" "LTideWords$Cells;", Cond.fieldLink RX1 26 "TideWords$Gates" "shuts" "LTideWords$Cells;", Cond.fieldLink RX1 29 "TideWords$Gates" "held" "LTideWords$Cells;", Cond.fieldLink RX1 32 "TideWords$Gates" "lettersDone" "LTideWords$Cells;", Cond.fieldLink RX1 35 "TideWords$Gates" "passedWords" "LTideWords$Cells;", Cond.fieldLink RX1 38 "TideWords$Gates" "vainLetters" "LTideWords$Cells;", Cond.methodLink RX1 65 yX0_copyFrom, Cond.methodLink RX5 141 yX4_copyFrom, Cond.instanceMethod yX4_copyFrom, Cond.selects RX4 yX4_copyFrom yX4_copyFrom, Cond.initialized RX4, Cond.code yX4_copyFrom cX4_copyFrom 2 none, Cond.fieldLink RX4 14 "TideWords$Words" "lengths" "LTideWords$Cells;"]
def wsX6_put_r5 : List Cond := [Cond.fieldLink RX4 20 "TideWords$Words" "letters" "LTideWords$Cells;", Cond.fieldLink RX4 23 "TideWords$Words" "passedSteps" "LTideWords$Cells;", Cond.fieldLink RX4 26 "TideWords$Words" "passedGates" "LTideWords$Cells;", Cond.fieldLink RX4 29 "TideWords$Words" "timesBack" "LTideWords$Cells;", Cond.fieldLink RX4 32 "TideWords$Words" "rows" "LTideWords$Cells;", Cond.fieldLink RX4 35 "TideWords$Words" "rowLengths" "LTideWords$Cells;", Cond.fieldLink RX4 38 "TideWords$Words" "total" "I", Cond.methodLink RX4 70 yX0_copyFrom, Cond.methodLink RX6 129 yX6_bringWords, Cond.instanceMethod yX6_bringWords, Cond.selects RX6 yX6_bringWords yX6_bringWords, Cond.code yX6_bringWords cX6_bringWords 4 none, Cond.fieldLink RX6 278 "TideWords$Pad" "codes" "LTideWords$Cells;", Cond.methodLink RX6 275 yX4_startWord, Cond.instanceMethod yX4_startWord, Cond.selects RX4 yX4_startWord yX4_startWord, Cond.code yX4_startWord cX4_startWord 3 none, Cond.methodLink RX4 42 yX0_set, Cond.instanceMethod yX0_set, Cond.selects RX0 yX0_set yX0_set, Cond.code yX0_set cX0_set 3 none, Cond.methodLink RX4 46 yX4_addLast, Cond.instanceMethod yX4_addLast, Cond.selects RX4 yX4_addLast yX4_addLast]
def wsX6_put_r6 : List Cond := [Cond.code yX4_addLast cX4_addLast 4 none, Cond.methodLink RX4 49 yX0_get, Cond.methodLink RX6 77 yX0_get, Cond.methodLink RX6 281 yX4_addLetter, Cond.instanceMethod yX4_addLetter, Cond.selects RX4 yX4_addLetter yX4_addLetter, Cond.code yX4_addLetter cX4_addLetter 4 none, Cond.methodLink RX4 53 yX0_add, Cond.instanceMethod yX0_add, Cond.selects RX0 yX0_add yX0_add, Cond.code yX0_add cX0_add 3 none]
def wsX6_put : List Cond := .code yX6_put cX6_put 2 (some .int) :: ((wsX6_put_r1 ++ (wsX6_put_r2 ++ (wsX6_put_r3 ++ (wsX6_put_r4 ++ (wsX6_put_r5 ++ wsX6_put_r6))))) ++ wsX60 ++ wsX50 ++ wsX40 ++ wsX20 ++ wsX00 ++ wsX30 ++ wsX10)
def wsX6_run_r1 : List Cond := [Cond.fieldLink RX6 10 "TideWords" "now" "LTideWords$World;", Cond.fieldLink RX6 66 "TideWords$World" "steps" "I", Cond.constant RX6 135 (99999), Cond.fieldLink RX6 88 "TideWords$World" "gates" "LTideWords$Gates;", Cond.fieldLink RX6 136 "TideWords$Gates" "passedWords" "LTideWords$Cells;", Cond.methodLink RX6 49 yX6_isWithin, Cond.static yX6_isWithin, Cond.initialized RX6, Cond.code yX6_isWithin cX6_isWithin 3 (some .boolean), Cond.methodLink RX6 53 yX6_record, Cond.instanceMethod yX6_record, Cond.selects RX6 yX6_record yX6_record, Cond.code yX6_record cX6_record 1 none, Cond.fieldLink RX6 26 "TideWords" "history" "[LTideWords$World;", Cond.fieldLink RX6 259 "TideWords" "nextRecord" "I", Cond.fieldLink RX6 219 "TideWords" "records" "I", Cond.methodLink RX6 270 Lib.Math.min.name, Cond.static Lib.Math.min.name, Cond.initialized "java/lang/Math", Cond.code Lib.Math.min.name Lib.Math.min.code 2 (some .int), Cond.methodLink RX6 266 yX6_copyInto, Cond.instanceMethod yX6_copyInto, Cond.selects RX6 yX6_copyInto yX6_copyInto, Cond.code yX6_copyInto cX6_copyInto 4 none]
def wsX6_run_r2 : List Cond := [Cond.methodLink RX6 262 yX6_worldIn, Cond.static yX6_worldIn, Cond.code yX6_worldIn cX6_worldIn 2 (some (.object "TideWords$World")), Cond.methodLink RX6 228 yX5_copyFrom, Cond.instanceMethod yX5_copyFrom, Cond.selects RX5 yX5_copyFrom yX5_copyFrom, Cond.initialized RX5, Cond.code yX5_copyFrom cX5_copyFrom 2 none, Cond.fieldLink RX5 12 "TideWords$World" "tides" "LTideWords$Tides;", Cond.fieldLink RX5 21 "TideWords$World" "gates" "LTideWords$Gates;", Cond.fieldLink RX5 28 "TideWords$World" "words" "LTideWords$Words;", Cond.fieldLink RX5 40 "TideWords$World" "steps" "I", Cond.fieldLink RX5 93 "TideWords$World" "letters" "I", Cond.fieldLink RX5 67 "TideWords$World" "idleSteps" "I", Cond.methodLink RX5 134 yX3_copyFrom, Cond.instanceMethod yX3_copyFrom, Cond.selects RX3 yX3_copyFrom yX3_copyFrom, Cond.initialized RX3, Cond.code yX3_copyFrom cX3_copyFrom 2 none, Cond.fieldLink RX3 14 "TideWords$Tides" "means" "LTideWords$Cells;", Cond.fieldLink RX3 20 "TideWords$Tides" "swings" "LTideWords$Cells;", Cond.fieldLink RX3 23 "TideWords$Tides" "periods" "LTideWords$Cells;", Cond.fieldLink RX3 26 "TideWords$Tides" "lies" "LTideWords$Cells;", Cond.methodLink RX3 53 yX0_copyFrom]
def wsX6_run_r3 : List Cond := [Cond.instanceMethod yX0_copyFrom, Cond.selects RX0 yX0_copyFrom yX0_copyFrom, Cond.initialized RX0, Cond.code yX0_copyFrom cX0_copyFrom 2 none, Cond.fieldLink RX0 13 "TideWords$Cells" "cells" "[I", Cond.methodLink RX0 19 Lib.Math.min.name, Cond.methodLink RX0 22 arraycopyName, Cond.native arraycopyName, Cond.static arraycopyName, Cond.initialized "java/lang/System", Cond.methodLink RX5 138 yX1_copyFrom, Cond.instanceMethod yX1_copyFrom, Cond.selects RX1 yX1_copyFrom yX1_copyFrom, Cond.initialized RX1, Cond.code yX1_copyFrom cX1_copyFrom 2 none, Cond.fieldLink RX1 14 "TideWords$Gates" "sides" "LTideWords$Cells;", Cond.fieldLink RX1 20 "TideWords$Gates" "slacks" "LTideWords$Cells;", Cond.fieldLink RX1 23 "TideWords$Gates" "ways" "LTideWords$Cells;", Cond.fieldLink RX1 26 "TideWords$Gates" "shuts" "LTideWords$Cells;", Cond.fieldLink RX1 29 "TideWords$Gates" "held" "LTideWords$Cells;", Cond.fieldLink RX1 32 "TideWords$Gates" "lettersDone" "LTideWords$Cells;", Cond.fieldLink RX1 35 "TideWords$Gates" "passedWords" "LTideWords$Cells;", Cond.fieldLink RX1 38 "TideWords$Gates" "vainLetters" "LTideWords$Cells;", Cond.methodLink RX1 65 yX0_copyFrom]
def wsX6_run_r4 : List Cond := [Cond.methodLink RX5 141 yX4_copyFrom, Cond.instanceMethod yX4_copyFrom, Cond.selects RX4 yX4_copyFrom yX4_copyFrom, Cond.initialized RX4, Cond.code yX4_copyFrom cX4_copyFrom 2 none, Cond.fieldLink RX4 14 "TideWords$Words" "lengths" "LTideWords$Cells;", Cond.fieldLink RX4 20 "TideWords$Words" "letters" "LTideWords$Cells;", Cond.fieldLink RX4 23 "TideWords$Words" "passedSteps" "LTideWords$Cells;", Cond.fieldLink RX4 26 "TideWords$Words" "passedGates" "LTideWords$Cells;", Cond.fieldLink RX4 29 "TideWords$Words" "timesBack" "LTideWords$Cells;", Cond.fieldLink RX4 32 "TideWords$Words" "rows" "LTideWords$Cells;", Cond.fieldLink RX4 35 "TideWords$Words" "rowLengths" "LTideWords$Cells;", Cond.fieldLink RX4 38 "TideWords$Words" "total" "I", Cond.methodLink RX4 70 yX0_copyFrom, Cond.methodLink RX6 110 yX0_sum, Cond.instanceMethod yX0_sum, Cond.selects RX0 yX0_sum yX0_sum, Cond.code yX0_sum cX0_sum 3 (some .int), Cond.methodLink RX6 139 yX5_makeSteps, Cond.instanceMethod yX5_makeSteps, Cond.selects RX5 yX5_makeSteps yX5_makeSteps, Cond.code yX5_makeSteps cX5_makeSteps 3 none, Cond.methodLink RX5 32 yX3_gapAt, Cond.instanceMethod yX3_gapAt]
def wsX6_run_r5 : List Cond := [Cond.selects RX3 yX3_gapAt yX3_gapAt, Cond.code yX3_gapAt cX3_gapAt 2 (some .int), Cond.methodLink RX3 50 yX3_toldAt, Cond.instanceMethod yX3_toldAt, Cond.selects RX3 yX3_toldAt yX3_toldAt, Cond.code yX3_toldAt cX3_toldAt 3 (some .int), Cond.methodLink RX3 47 yX3_levelAt, Cond.instanceMethod yX3_levelAt, Cond.selects RX3 yX3_levelAt yX3_levelAt, Cond.code yX3_levelAt cX3_levelAt 6 (some .int), Cond.methodLink RX3 41 Lib.Math.min.name, Cond.methodLink RX3 37 yX0_get, Cond.instanceMethod yX0_get, Cond.selects RX0 yX0_get yX0_get, Cond.code yX0_get cX0_get 2 (some .int), Cond.methodLink RX5 54 yX5_stepAcross, Cond.instanceMethod yX5_stepAcross, Cond.selects RX5 yX5_stepAcross yX5_stepAcross, Cond.code yX5_stepAcross cX5_stepAcross 4 none, Cond.methodLink RX5 36 yX1_isOpenAcross, Cond.instanceMethod yX1_isOpenAcross, Cond.selects RX1 yX1_isOpenAcross yX1_isOpenAcross, Cond.code yX1_isOpenAcross cX1_isOpenAcross 3 (some .boolean), Cond.methodLink RX1 57 Lib.Math.abs.name]
def wsX6_run_r6 : List Cond := [Cond.static Lib.Math.abs.name, Cond.code Lib.Math.abs.name Lib.Math.abs.code 1 (some .int), Cond.methodLink RX1 53 yX1_isShut, Cond.instanceMethod yX1_isShut, Cond.selects RX1 yX1_isShut yX1_isShut, Cond.code yX1_isShut cX1_isShut 2 (some .boolean), Cond.methodLink RX1 49 yX0_get, Cond.methodLink RX5 58 yX5_takeWord, Cond.instanceMethod yX5_takeWord, Cond.selects RX5 yX5_takeWord yX5_takeWord, Cond.code yX5_takeWord cX5_takeWord 2 none, Cond.fieldLink RX5 74 "TideWords$Gates" "held" "LTideWords$Cells;", Cond.fieldLink RX5 78 "TideWords$Gates" "sides" "LTideWords$Cells;", Cond.methodLink RX5 70 yX1_hasWord, Cond.instanceMethod yX1_hasWord, Cond.selects RX1 yX1_hasWord yX1_hasWord, Cond.code yX1_hasWord cX1_hasWord 2 (some .boolean), Cond.methodLink RX5 81 yX0_get, Cond.methodLink RX5 86 yX4_takeWaiting, Cond.instanceMethod yX4_takeWaiting, Cond.selects RX4 yX4_takeWaiting yX4_takeWaiting, Cond.code yX4_takeWaiting cX4_takeWaiting 5 (some .int), Cond.methodLink RX4 49 yX0_get, Cond.methodLink RX4 56 yX4_wordAt]
def wsX6_run_r7 : List Cond := [Cond.instanceMethod yX4_wordAt, Cond.selects RX4 yX4_wordAt yX4_wordAt, Cond.code yX4_wordAt cX4_wordAt 3 (some .int), Cond.methodLink RX4 63 yX4_hasPassed, Cond.instanceMethod yX4_hasPassed, Cond.selects RX4 yX4_hasPassed yX4_hasPassed, Cond.code yX4_hasPassed cX4_hasPassed 2 (some .boolean), Cond.methodLink RX4 67 yX4_removeFrom, Cond.instanceMethod yX4_removeFrom, Cond.selects RX4 yX4_removeFrom yX4_removeFrom, Cond.code yX4_removeFrom cX4_removeFrom 6 none, Cond.methodLink RX4 42 yX0_set, Cond.instanceMethod yX0_set, Cond.selects RX0 yX0_set yX0_set, Cond.code yX0_set cX0_set 3 none, Cond.methodLink RX5 89 yX0_set, Cond.methodLink RX5 61 yX5_passLetter, Cond.instanceMethod yX5_passLetter, Cond.selects RX5 yX5_passLetter yX5_passLetter, Cond.code yX5_passLetter cX5_passLetter 3 none, Cond.fieldLink RX5 96 "TideWords$Gates" "lettersDone" "LTideWords$Cells;", Cond.fieldLink RX5 102 "TideWords$Words" "lengths" "LTideWords$Cells;", Cond.fieldLink RX5 108 "TideWords$Gates" "passedWords" "LTideWords$Cells;", Cond.methodLink RX5 99 yX0_add]
def wsX6_run_r8 : List Cond := [Cond.instanceMethod yX0_add, Cond.selects RX0 yX0_add yX0_add, Cond.code yX0_add cX0_add 3 none, Cond.methodLink RX5 105 yX1_release, Cond.instanceMethod yX1_release, Cond.selects RX1 yX1_release yX1_release, Cond.code yX1_release cX1_release 2 none, Cond.methodLink RX1 45 yX0_set, Cond.methodLink RX5 111 yX4_markPassed, Cond.instanceMethod yX4_markPassed, Cond.selects RX4 yX4_markPassed yX4_markPassed, Cond.code yX4_markPassed cX4_markPassed 4 none, Cond.methodLink RX5 115 yX4_addLast, Cond.instanceMethod yX4_addLast, Cond.selects RX4 yX4_addLast yX4_addLast, Cond.code yX4_addLast cX4_addLast 4 none, Cond.methodLink RX5 64 yX5_sendBack, Cond.instanceMethod yX5_sendBack, Cond.selects RX5 yX5_sendBack yX5_sendBack, Cond.code yX5_sendBack cX5_sendBack 3 none, Cond.fieldLink RX5 118 "TideWords$Gates" "ways" "LTideWords$Cells;", Cond.fieldLink RX5 121 "TideWords$Gates" "vainLetters" "LTideWords$Cells;", Cond.fieldLink RX5 124 "TideWords$Words" "timesBack" "LTideWords$Cells;", Cond.methodLink RX5 127 yX4_addFirst]
def wsX6_run_r9 : List Cond := [Cond.instanceMethod yX4_addFirst, Cond.selects RX4 yX4_addFirst yX4_addFirst, Cond.code yX4_addFirst cX4_addFirst 6 none]
def wsX6_run : List Cond := .code yX6_run cX6_run 3 (some .int) :: ((wsX6_run_r1 ++ (wsX6_run_r2 ++ (wsX6_run_r3 ++ (wsX6_run_r4 ++ (wsX6_run_r5 ++ (wsX6_run_r6 ++ (wsX6_run_r7 ++ (wsX6_run_r8 ++ wsX6_run_r9)))))))) ++ wsX60 ++ wsX50 ++ wsX10 ++ wsX30 ++ wsX00 ++ wsX40)
def wsX6_store_r1 : List Cond := [Cond.fieldLink RX6 10 "TideWords" "now" "LTideWords$World;", Cond.fieldLink RX6 56 "TideWords$World" "tides" "LTideWords$Tides;", Cond.fieldLink RX6 142 "TideWords$Tides" "means" "LTideWords$Cells;", Cond.fieldLink RX6 145 "TideWords$Tides" "swings" "LTideWords$Cells;", Cond.fieldLink RX6 148 "TideWords$Tides" "periods" "LTideWords$Cells;", Cond.fieldLink RX6 74 "TideWords$Tides" "lies" "LTideWords$Cells;", Cond.fieldLink RX6 66 "TideWords$World" "steps" "I", Cond.fieldLink RX6 117 "TideWords$World" "words" "LTideWords$Words;", Cond.fieldLink RX6 154 "TideWords$Words" "rowLengths" "LTideWords$Cells;", Cond.methodLink RX6 45 yX6_isStore, Cond.static yX6_isStore, Cond.initialized RX6, Cond.code yX6_isStore cX6_isStore 1 (some .boolean), Cond.methodLink RX6 49 yX6_isWithin, Cond.static yX6_isWithin, Cond.code yX6_isWithin cX6_isWithin 3 (some .boolean), Cond.methodLink RX6 77 yX0_get, Cond.instanceMethod yX0_get, Cond.selects RX0 yX0_get yX0_get, Cond.initialized RX0, Cond.code yX0_get cX0_get 2 (some .int), Cond.fieldLink RX0 13 "TideWords$Cells" "cells" "[I", Cond.methodLink RX6 70 yX3_levelAt, Cond.instanceMethod yX3_levelAt]
def wsX6_store_r2 : List Cond := [Cond.selects RX3 yX3_levelAt yX3_levelAt, Cond.initialized RX3, Cond.code yX3_levelAt cX3_levelAt 6 (some .int), Cond.fieldLink RX3 23 "TideWords$Tides" "periods" "LTideWords$Cells;", Cond.fieldLink RX3 14 "TideWords$Tides" "means" "LTideWords$Cells;", Cond.fieldLink RX3 20 "TideWords$Tides" "swings" "LTideWords$Cells;", Cond.methodLink RX3 41 Lib.Math.min.name, Cond.static Lib.Math.min.name, Cond.initialized "java/lang/Math", Cond.code Lib.Math.min.name Lib.Math.min.code 2 (some .int), Cond.methodLink RX3 37 yX0_get, Cond.methodLink RX6 151 yX3_toldAt, Cond.instanceMethod yX3_toldAt, Cond.selects RX3 yX3_toldAt yX3_toldAt, Cond.code yX3_toldAt cX3_toldAt 3 (some .int), Cond.fieldLink RX3 26 "TideWords$Tides" "lies" "LTideWords$Cells;", Cond.methodLink RX3 47 yX3_levelAt, Cond.methodLink RX6 157 yX4_lettersInRow, Cond.instanceMethod yX4_lettersInRow, Cond.selects RX4 yX4_lettersInRow yX4_lettersInRow, Cond.initialized RX4, Cond.code yX4_lettersInRow cX4_lettersInRow 5 (some .int), Cond.fieldLink RX4 35 "TideWords$Words" "rowLengths" "LTideWords$Cells;", Cond.fieldLink RX4 14 "TideWords$Words" "lengths" "LTideWords$Cells;"]
def wsX6_store_r3 : List Cond := [Cond.methodLink RX4 49 yX0_get, Cond.methodLink RX4 56 yX4_wordAt, Cond.instanceMethod yX4_wordAt, Cond.selects RX4 yX4_wordAt yX4_wordAt, Cond.code yX4_wordAt cX4_wordAt 3 (some .int), Cond.fieldLink RX4 32 "TideWords$Words" "rows" "LTideWords$Cells;", Cond.methodLink RX6 160 yX4_waitingInRow, Cond.instanceMethod yX4_waitingInRow, Cond.selects RX4 yX4_waitingInRow yX4_waitingInRow, Cond.code yX4_waitingInRow cX4_waitingInRow 5 (some .int), Cond.methodLink RX4 63 yX4_hasPassed, Cond.instanceMethod yX4_hasPassed, Cond.selects RX4 yX4_hasPassed yX4_hasPassed, Cond.code yX4_hasPassed cX4_hasPassed 2 (some .boolean), Cond.fieldLink RX4 23 "TideWords$Words" "passedSteps" "LTideWords$Cells;"]
def wsX6_store : List Cond := .code yX6_store cX6_store 3 (some .int) :: ((wsX6_store_r1 ++ (wsX6_store_r2 ++ wsX6_store_r3)) ++ wsX60 ++ wsX50 ++ wsX30 ++ wsX40 ++ wsX00)
def wsX6_gateOf_r1 : List Cond := [Cond.fieldLink RX6 10 "TideWords" "now" "LTideWords$World;", Cond.fieldLink RX6 88 "TideWords$World" "gates" "LTideWords$Gates;", Cond.fieldLink RX6 97 "TideWords$Gates" "sides" "LTideWords$Cells;", Cond.fieldLink RX6 100 "TideWords$Gates" "slacks" "LTideWords$Cells;", Cond.fieldLink RX6 163 "TideWords$Gates" "ways" "LTideWords$Cells;", Cond.fieldLink RX6 107 "TideWords$Gates" "shuts" "LTideWords$Cells;", Cond.fieldLink RX6 66 "TideWords$World" "steps" "I", Cond.fieldLink RX6 170 "TideWords$Gates" "held" "LTideWords$Cells;", Cond.fieldLink RX6 173 "TideWords$Gates" "lettersDone" "LTideWords$Cells;", Cond.fieldLink RX6 136 "TideWords$Gates" "passedWords" "LTideWords$Cells;", Cond.fieldLink RX6 176 "TideWords$Gates" "vainLetters" "LTideWords$Cells;", Cond.methodLink RX6 85 yX6_isGate, Cond.static yX6_isGate, Cond.initialized RX6, Cond.code yX6_isGate cX6_isGate 1 (some .boolean), Cond.methodLink RX6 49 yX6_isWithin, Cond.static yX6_isWithin, Cond.code yX6_isWithin cX6_isWithin 3 (some .boolean), Cond.methodLink RX6 77 yX0_get, Cond.instanceMethod yX0_get, Cond.selects RX0 yX0_get yX0_get, Cond.initialized RX0, Cond.code yX0_get cX0_get 2 (some .int), Cond.fieldLink RX0 13 "TideWords$Cells" "cells" "[I"]
def wsX6_gateOf_r2 : List Cond := [Cond.methodLink RX6 166 yX5_isOpenAt, Cond.instanceMethod yX5_isOpenAt, Cond.selects RX5 yX5_isOpenAt yX5_isOpenAt, Cond.initialized RX5, Cond.code yX5_isOpenAt cX5_isOpenAt 3 (some .boolean), Cond.fieldLink RX5 21 "TideWords$World" "gates" "LTideWords$Gates;", Cond.fieldLink RX5 12 "TideWords$World" "tides" "LTideWords$Tides;", Cond.methodLink RX5 32 yX3_gapAt, Cond.instanceMethod yX3_gapAt, Cond.selects RX3 yX3_gapAt yX3_gapAt, Cond.initialized RX3, Cond.code yX3_gapAt cX3_gapAt 2 (some .int), Cond.methodLink RX3 50 yX3_toldAt, Cond.instanceMethod yX3_toldAt, Cond.selects RX3 yX3_toldAt yX3_toldAt, Cond.code yX3_toldAt cX3_toldAt 3 (some .int), Cond.fieldLink RX3 26 "TideWords$Tides" "lies" "LTideWords$Cells;", Cond.methodLink RX3 47 yX3_levelAt, Cond.instanceMethod yX3_levelAt, Cond.selects RX3 yX3_levelAt yX3_levelAt, Cond.code yX3_levelAt cX3_levelAt 6 (some .int), Cond.fieldLink RX3 23 "TideWords$Tides" "periods" "LTideWords$Cells;", Cond.fieldLink RX3 14 "TideWords$Tides" "means" "LTideWords$Cells;", Cond.fieldLink RX3 20 "TideWords$Tides" "swings" "LTideWords$Cells;"]
def wsX6_gateOf_r3 : List Cond := [Cond.methodLink RX3 41 Lib.Math.min.name, Cond.static Lib.Math.min.name, Cond.initialized "java/lang/Math", Cond.code Lib.Math.min.name Lib.Math.min.code 2 (some .int), Cond.methodLink RX3 37 yX0_get, Cond.methodLink RX5 36 yX1_isOpenAcross, Cond.instanceMethod yX1_isOpenAcross, Cond.selects RX1 yX1_isOpenAcross yX1_isOpenAcross, Cond.initialized RX1, Cond.code yX1_isOpenAcross cX1_isOpenAcross 3 (some .boolean), Cond.methodLink RX1 57 Lib.Math.abs.name, Cond.static Lib.Math.abs.name, Cond.code Lib.Math.abs.name Lib.Math.abs.code 1 (some .int), Cond.fieldLink RX1 20 "TideWords$Gates" "slacks" "LTideWords$Cells;", Cond.methodLink RX1 53 yX1_isShut, Cond.instanceMethod yX1_isShut, Cond.selects RX1 yX1_isShut yX1_isShut, Cond.code yX1_isShut cX1_isShut 2 (some .boolean), Cond.fieldLink RX1 26 "TideWords$Gates" "shuts" "LTideWords$Cells;", Cond.methodLink RX1 49 yX0_get]
def wsX6_gateOf : List Cond := .code yX6_gateOf cX6_gateOf 3 (some .int) :: ((wsX6_gateOf_r1 ++ (wsX6_gateOf_r2 ++ wsX6_gateOf_r3)) ++ wsX60 ++ wsX50 ++ wsX10 ++ wsX00 ++ wsX30)
def wsX6_isWord : List Cond := .code yX6_isWord cX6_isWord 2 (some .boolean) :: ([.fieldLink RX6 10 "TideWords" "now" "LTideWords$World;", .fieldLink RX6 117 "TideWords$World" "words" "LTideWords$Words;", .fieldLink RX6 121 "TideWords$Words" "total" "I", .methodLink RX6 49 yX6_isWithin, .static yX6_isWithin, .initialized RX6, .code yX6_isWithin cX6_isWithin 3 (some .boolean)] ++ wsX60 ++ wsX50 ++ wsX40)
def wsX6_word_r1 : List Cond := [Cond.fieldLink RX6 10 "TideWords" "now" "LTideWords$World;", Cond.fieldLink RX6 117 "TideWords$World" "words" "LTideWords$Words;", Cond.fieldLink RX6 188 "TideWords$Words" "lengths" "LTideWords$Cells;", Cond.fieldLink RX6 194 "TideWords$Words" "passedSteps" "LTideWords$Cells;", Cond.fieldLink RX6 197 "TideWords$Words" "passedGates" "LTideWords$Cells;", Cond.fieldLink RX6 200 "TideWords$Words" "timesBack" "LTideWords$Cells;", Cond.methodLink RX6 179 yX6_isWord, Cond.instanceMethod yX6_isWord, Cond.selects RX6 yX6_isWord yX6_isWord, Cond.initialized RX6, Cond.code yX6_isWord cX6_isWord 2 (some .boolean), Cond.fieldLink RX6 121 "TideWords$Words" "total" "I", Cond.methodLink RX6 49 yX6_isWithin, Cond.static yX6_isWithin, Cond.code yX6_isWithin cX6_isWithin 3 (some .boolean), Cond.methodLink RX6 182 yX5_whereIs, Cond.instanceMethod yX5_whereIs, Cond.selects RX5 yX5_whereIs yX5_whereIs, Cond.initialized RX5, Cond.code yX5_whereIs cX5_whereIs 3 (some .int), Cond.fieldLink RX5 21 "TideWords$World" "gates" "LTideWords$Gates;", Cond.fieldLink RX5 28 "TideWords$World" "words" "LTideWords$Words;", Cond.methodLink RX5 47 yX1_gateWith, Cond.instanceMethod yX1_gateWith]
def wsX6_word_r2 : List Cond := [Cond.selects RX1 yX1_gateWith yX1_gateWith, Cond.initialized RX1, Cond.code yX1_gateWith cX1_gateWith 3 (some .int), Cond.fieldLink RX1 29 "TideWords$Gates" "held" "LTideWords$Cells;", Cond.methodLink RX1 49 yX0_get, Cond.instanceMethod yX0_get, Cond.selects RX0 yX0_get yX0_get, Cond.initialized RX0, Cond.code yX0_get cX0_get 2 (some .int), Cond.fieldLink RX0 13 "TideWords$Cells" "cells" "[I", Cond.methodLink RX5 50 yX4_placeIn, Cond.instanceMethod yX4_placeIn, Cond.selects RX4 yX4_placeIn yX4_placeIn, Cond.initialized RX4, Cond.code yX4_placeIn cX4_placeIn 5 (some .int), Cond.fieldLink RX4 35 "TideWords$Words" "rowLengths" "LTideWords$Cells;", Cond.methodLink RX4 49 yX0_get, Cond.methodLink RX4 56 yX4_wordAt, Cond.instanceMethod yX4_wordAt, Cond.selects RX4 yX4_wordAt yX4_wordAt, Cond.code yX4_wordAt cX4_wordAt 3 (some .int), Cond.fieldLink RX4 32 "TideWords$Words" "rows" "LTideWords$Cells;", Cond.methodLink RX6 185 yX4_placeOf, Cond.instanceMethod yX4_placeOf]
def wsX6_word_r3 : List Cond := [Cond.selects RX4 yX4_placeOf yX4_placeOf, Cond.code yX4_placeOf cX4_placeOf 3 (some .int), Cond.methodLink RX4 60 yX4_placeIn, Cond.methodLink RX6 77 yX0_get, Cond.methodLink RX6 191 yX4_hasPassed, Cond.instanceMethod yX4_hasPassed, Cond.selects RX4 yX4_hasPassed yX4_hasPassed, Cond.code yX4_hasPassed cX4_hasPassed 2 (some .boolean), Cond.fieldLink RX4 23 "TideWords$Words" "passedSteps" "LTideWords$Cells;", Cond.methodLink RX6 203 yX4_letterOf, Cond.instanceMethod yX4_letterOf, Cond.selects RX4 yX4_letterOf yX4_letterOf, Cond.code yX4_letterOf cX4_letterOf 4 (some .int), Cond.fieldLink RX4 14 "TideWords$Words" "lengths" "LTideWords$Cells;", Cond.fieldLink RX4 20 "TideWords$Words" "letters" "LTideWords$Cells;"]
def wsX6_word : List Cond := .code yX6_word cX6_word 3 (some .int) :: ((wsX6_word_r1 ++ (wsX6_word_r2 ++ wsX6_word_r3)) ++ wsX60 ++ wsX50 ++ wsX40 ++ wsX10 ++ wsX00)
def wsX6_at : List Cond := .code yX6_at cX6_at 3 (some .int) :: ([.fieldLink RX6 10 "TideWords" "now" "LTideWords$World;", .fieldLink RX6 117 "TideWords$World" "words" "LTideWords$Words;", .fieldLink RX6 154 "TideWords$Words" "rowLengths" "LTideWords$Cells;", .methodLink RX6 45 yX6_isStore, .static yX6_isStore, .initialized RX6, .code yX6_isStore cX6_isStore 1 (some .boolean), .methodLink RX6 49 yX6_isWithin, .static yX6_isWithin, .code yX6_isWithin cX6_isWithin 3 (some .boolean), .methodLink RX6 77 yX0_get, .instanceMethod yX0_get, .selects RX0 yX0_get yX0_get, .initialized RX0, .code yX0_get cX0_get 2 (some .int), .fieldLink RX0 13 "TideWords$Cells" "cells" "[I", .methodLink RX6 206 yX4_wordAt, .instanceMethod yX4_wordAt, .selects RX4 yX4_wordAt yX4_wordAt, .initialized RX4, .code yX4_wordAt cX4_wordAt 3 (some .int), .fieldLink RX4 32 "TideWords$Words" "rows" "LTideWords$Cells;", .methodLink RX4 49 yX0_get] ++ wsX60 ++ wsX50 ++ wsX40 ++ wsX00)
def wsX6_count_r1 : List Cond := [Cond.fieldLink RX6 10 "TideWords" "now" "LTideWords$World;", Cond.fieldLink RX6 66 "TideWords$World" "steps" "I", Cond.fieldLink RX6 117 "TideWords$World" "words" "LTideWords$Words;", Cond.fieldLink RX6 121 "TideWords$Words" "total" "I", Cond.fieldLink RX6 88 "TideWords$World" "gates" "LTideWords$Gates;", Cond.fieldLink RX6 136 "TideWords$Gates" "passedWords" "LTideWords$Cells;", Cond.fieldLink RX6 210 "TideWords$World" "letters" "I", Cond.fieldLink RX6 176 "TideWords$Gates" "vainLetters" "LTideWords$Cells;", Cond.fieldLink RX6 216 "TideWords$World" "idleSteps" "I", Cond.fieldLink RX6 22 "TideWords" "pad" "LTideWords$Pad;", Cond.fieldLink RX6 132 "TideWords$Pad" "length" "I", Cond.fieldLink RX6 219 "TideWords" "records" "I", Cond.methodLink RX6 110 yX0_sum, Cond.instanceMethod yX0_sum, Cond.selects RX0 yX0_sum yX0_sum, Cond.initialized RX0, Cond.code yX0_sum cX0_sum 3 (some .int), Cond.fieldLink RX0 13 "TideWords$Cells" "cells" "[I", Cond.methodLink RX6 160 yX4_waitingInRow, Cond.instanceMethod yX4_waitingInRow, Cond.selects RX4 yX4_waitingInRow yX4_waitingInRow, Cond.initialized RX4, Cond.code yX4_waitingInRow cX4_waitingInRow 5 (some .int), Cond.fieldLink RX4 35 "TideWords$Words" "rowLengths" "LTideWords$Cells;"]
def wsX6_count_r2 : List Cond := [Cond.methodLink RX4 49 yX0_get, Cond.instanceMethod yX0_get, Cond.selects RX0 yX0_get yX0_get, Cond.code yX0_get cX0_get 2 (some .int), Cond.methodLink RX4 56 yX4_wordAt, Cond.instanceMethod yX4_wordAt, Cond.selects RX4 yX4_wordAt yX4_wordAt, Cond.code yX4_wordAt cX4_wordAt 3 (some .int), Cond.fieldLink RX4 32 "TideWords$Words" "rows" "LTideWords$Cells;", Cond.methodLink RX4 63 yX4_hasPassed, Cond.instanceMethod yX4_hasPassed, Cond.selects RX4 yX4_hasPassed yX4_hasPassed, Cond.code yX4_hasPassed cX4_hasPassed 2 (some .boolean), Cond.fieldLink RX4 23 "TideWords$Words" "passedSteps" "LTideWords$Cells;", Cond.methodLink RX6 209 yX1_wordsInside, Cond.instanceMethod yX1_wordsInside, Cond.selects RX1 yX1_wordsInside yX1_wordsInside, Cond.initialized RX1, Cond.code yX1_wordsInside cX1_wordsInside 3 (some .int), Cond.methodLink RX1 62 yX1_hasWord, Cond.instanceMethod yX1_hasWord, Cond.selects RX1 yX1_hasWord yX1_hasWord, Cond.code yX1_hasWord cX1_hasWord 2 (some .boolean), Cond.fieldLink RX1 29 "TideWords$Gates" "held" "LTideWords$Cells;"]
def wsX6_count_r3 : List Cond := [Cond.methodLink RX1 49 yX0_get, Cond.methodLink RX6 213 yX5_openMask, Cond.instanceMethod yX5_openMask, Cond.selects RX5 yX5_openMask yX5_openMask, Cond.initialized RX5, Cond.code yX5_openMask cX5_openMask 3 (some .int), Cond.fieldLink RX5 40 "TideWords$World" "steps" "I", Cond.methodLink RX5 44 yX5_isOpenAt, Cond.instanceMethod yX5_isOpenAt, Cond.selects RX5 yX5_isOpenAt yX5_isOpenAt, Cond.code yX5_isOpenAt cX5_isOpenAt 3 (some .boolean), Cond.fieldLink RX5 21 "TideWords$World" "gates" "LTideWords$Gates;", Cond.fieldLink RX5 12 "TideWords$World" "tides" "LTideWords$Tides;", Cond.methodLink RX5 32 yX3_gapAt, Cond.instanceMethod yX3_gapAt, Cond.selects RX3 yX3_gapAt yX3_gapAt, Cond.initialized RX3, Cond.code yX3_gapAt cX3_gapAt 2 (some .int), Cond.methodLink RX3 50 yX3_toldAt, Cond.instanceMethod yX3_toldAt, Cond.selects RX3 yX3_toldAt yX3_toldAt, Cond.code yX3_toldAt cX3_toldAt 3 (some .int), Cond.fieldLink RX3 26 "TideWords$Tides" "lies" "LTideWords$Cells;", Cond.methodLink RX3 47 yX3_levelAt]
def wsX6_count_r4 : List Cond := [Cond.instanceMethod yX3_levelAt, Cond.selects RX3 yX3_levelAt yX3_levelAt, Cond.code yX3_levelAt cX3_levelAt 6 (some .int), Cond.fieldLink RX3 23 "TideWords$Tides" "periods" "LTideWords$Cells;", Cond.fieldLink RX3 14 "TideWords$Tides" "means" "LTideWords$Cells;", Cond.fieldLink RX3 20 "TideWords$Tides" "swings" "LTideWords$Cells;", Cond.methodLink RX3 41 Lib.Math.min.name, Cond.static Lib.Math.min.name, Cond.initialized "java/lang/Math", Cond.code Lib.Math.min.name Lib.Math.min.code 2 (some .int), Cond.methodLink RX3 37 yX0_get, Cond.methodLink RX5 36 yX1_isOpenAcross, Cond.instanceMethod yX1_isOpenAcross, Cond.selects RX1 yX1_isOpenAcross yX1_isOpenAcross, Cond.code yX1_isOpenAcross cX1_isOpenAcross 3 (some .boolean), Cond.methodLink RX1 57 Lib.Math.abs.name, Cond.static Lib.Math.abs.name, Cond.code Lib.Math.abs.name Lib.Math.abs.code 1 (some .int), Cond.fieldLink RX1 20 "TideWords$Gates" "slacks" "LTideWords$Cells;", Cond.methodLink RX1 53 yX1_isShut, Cond.instanceMethod yX1_isShut, Cond.selects RX1 yX1_isShut yX1_isShut, Cond.code yX1_isShut cX1_isShut 2 (some .boolean), Cond.fieldLink RX1 26 "TideWords$Gates" "shuts" "LTideWords$Cells;"]
def wsX6_count : List Cond := .code yX6_count cX6_count 2 (some .int) :: ((wsX6_count_r1 ++ (wsX6_count_r2 ++ (wsX6_count_r3 ++ wsX6_count_r4))) ++ wsX60 ++ wsX50 ++ wsX40 ++ wsX10 ++ wsX20 ++ wsX00 ++ wsX30)
def wsX6_untilOpen_r1 : List Cond := [Cond.fieldLink RX6 10 "TideWords" "now" "LTideWords$World;", Cond.methodLink RX6 85 yX6_isGate, Cond.static yX6_isGate, Cond.initialized RX6, Cond.code yX6_isGate cX6_isGate 1 (some .boolean), Cond.methodLink RX6 49 yX6_isWithin, Cond.static yX6_isWithin, Cond.code yX6_isWithin cX6_isWithin 3 (some .boolean), Cond.methodLink RX6 222 yX5_stepsUntilOpen, Cond.instanceMethod yX5_stepsUntilOpen, Cond.selects RX5 yX5_stepsUntilOpen yX5_stepsUntilOpen, Cond.initialized RX5, Cond.code yX5_stepsUntilOpen cX5_stepsUntilOpen 3 (some .int), Cond.fieldLink RX5 40 "TideWords$World" "steps" "I", Cond.methodLink RX5 44 yX5_isOpenAt, Cond.instanceMethod yX5_isOpenAt, Cond.selects RX5 yX5_isOpenAt yX5_isOpenAt, Cond.code yX5_isOpenAt cX5_isOpenAt 3 (some .boolean), Cond.fieldLink RX5 21 "TideWords$World" "gates" "LTideWords$Gates;", Cond.fieldLink RX5 12 "TideWords$World" "tides" "LTideWords$Tides;", Cond.methodLink RX5 32 yX3_gapAt, Cond.instanceMethod yX3_gapAt, Cond.selects RX3 yX3_gapAt yX3_gapAt, Cond.initialized RX3]
def wsX6_untilOpen_r2 : List Cond := [Cond.code yX3_gapAt cX3_gapAt 2 (some .int), Cond.methodLink RX3 50 yX3_toldAt, Cond.instanceMethod yX3_toldAt, Cond.selects RX3 yX3_toldAt yX3_toldAt, Cond.code yX3_toldAt cX3_toldAt 3 (some .int), Cond.fieldLink RX3 26 "TideWords$Tides" "lies" "LTideWords$Cells;", Cond.methodLink RX3 47 yX3_levelAt, Cond.instanceMethod yX3_levelAt, Cond.selects RX3 yX3_levelAt yX3_levelAt, Cond.code yX3_levelAt cX3_levelAt 6 (some .int), Cond.fieldLink RX3 23 "TideWords$Tides" "periods" "LTideWords$Cells;", Cond.fieldLink RX3 14 "TideWords$Tides" "means" "LTideWords$Cells;", Cond.fieldLink RX3 20 "TideWords$Tides" "swings" "LTideWords$Cells;", Cond.methodLink RX3 41 Lib.Math.min.name, Cond.static Lib.Math.min.name, Cond.initialized "java/lang/Math", Cond.code Lib.Math.min.name Lib.Math.min.code 2 (some .int), Cond.methodLink RX3 37 yX0_get, Cond.instanceMethod yX0_get, Cond.selects RX0 yX0_get yX0_get, Cond.initialized RX0, Cond.code yX0_get cX0_get 2 (some .int), Cond.fieldLink RX0 13 "TideWords$Cells" "cells" "[I", Cond.methodLink RX5 36 yX1_isOpenAcross]
def wsX6_untilOpen_r3 : List Cond := [Cond.instanceMethod yX1_isOpenAcross, Cond.selects RX1 yX1_isOpenAcross yX1_isOpenAcross, Cond.initialized RX1, Cond.code yX1_isOpenAcross cX1_isOpenAcross 3 (some .boolean), Cond.methodLink RX1 57 Lib.Math.abs.name, Cond.static Lib.Math.abs.name, Cond.code Lib.Math.abs.name Lib.Math.abs.code 1 (some .int), Cond.fieldLink RX1 20 "TideWords$Gates" "slacks" "LTideWords$Cells;", Cond.methodLink RX1 53 yX1_isShut, Cond.instanceMethod yX1_isShut, Cond.selects RX1 yX1_isShut yX1_isShut, Cond.code yX1_isShut cX1_isShut 2 (some .boolean), Cond.fieldLink RX1 26 "TideWords$Gates" "shuts" "LTideWords$Cells;", Cond.methodLink RX1 49 yX0_get]
def wsX6_untilOpen : List Cond := .code yX6_untilOpen cX6_untilOpen 2 (some .int) :: ((wsX6_untilOpen_r1 ++ (wsX6_untilOpen_r2 ++ wsX6_untilOpen_r3)) ++ wsX60 ++ wsX50 ++ wsX30 ++ wsX00 ++ wsX10)
def wsX6_openFor_r1 : List Cond := [Cond.fieldLink RX6 10 "TideWords" "now" "LTideWords$World;", Cond.fieldLink RX6 66 "TideWords$World" "steps" "I", Cond.methodLink RX6 85 yX6_isGate, Cond.static yX6_isGate, Cond.initialized RX6, Cond.code yX6_isGate cX6_isGate 1 (some .boolean), Cond.methodLink RX6 49 yX6_isWithin, Cond.static yX6_isWithin, Cond.code yX6_isWithin cX6_isWithin 3 (some .boolean), Cond.methodLink RX6 222 yX5_stepsUntilOpen, Cond.instanceMethod yX5_stepsUntilOpen, Cond.selects RX5 yX5_stepsUntilOpen yX5_stepsUntilOpen, Cond.initialized RX5, Cond.code yX5_stepsUntilOpen cX5_stepsUntilOpen 3 (some .int), Cond.fieldLink RX5 40 "TideWords$World" "steps" "I", Cond.methodLink RX5 44 yX5_isOpenAt, Cond.instanceMethod yX5_isOpenAt, Cond.selects RX5 yX5_isOpenAt yX5_isOpenAt, Cond.code yX5_isOpenAt cX5_isOpenAt 3 (some .boolean), Cond.fieldLink RX5 21 "TideWords$World" "gates" "LTideWords$Gates;", Cond.fieldLink RX5 12 "TideWords$World" "tides" "LTideWords$Tides;", Cond.methodLink RX5 32 yX3_gapAt, Cond.instanceMethod yX3_gapAt, Cond.selects RX3 yX3_gapAt yX3_gapAt]
def wsX6_openFor_r2 : List Cond := [Cond.initialized RX3, Cond.code yX3_gapAt cX3_gapAt 2 (some .int), Cond.methodLink RX3 50 yX3_toldAt, Cond.instanceMethod yX3_toldAt, Cond.selects RX3 yX3_toldAt yX3_toldAt, Cond.code yX3_toldAt cX3_toldAt 3 (some .int), Cond.fieldLink RX3 26 "TideWords$Tides" "lies" "LTideWords$Cells;", Cond.methodLink RX3 47 yX3_levelAt, Cond.instanceMethod yX3_levelAt, Cond.selects RX3 yX3_levelAt yX3_levelAt, Cond.code yX3_levelAt cX3_levelAt 6 (some .int), Cond.fieldLink RX3 23 "TideWords$Tides" "periods" "LTideWords$Cells;", Cond.fieldLink RX3 14 "TideWords$Tides" "means" "LTideWords$Cells;", Cond.fieldLink RX3 20 "TideWords$Tides" "swings" "LTideWords$Cells;", Cond.methodLink RX3 41 Lib.Math.min.name, Cond.static Lib.Math.min.name, Cond.initialized "java/lang/Math", Cond.code Lib.Math.min.name Lib.Math.min.code 2 (some .int), Cond.methodLink RX3 37 yX0_get, Cond.instanceMethod yX0_get, Cond.selects RX0 yX0_get yX0_get, Cond.initialized RX0, Cond.code yX0_get cX0_get 2 (some .int), Cond.fieldLink RX0 13 "TideWords$Cells" "cells" "[I"]
def wsX6_openFor_r3 : List Cond := [Cond.methodLink RX5 36 yX1_isOpenAcross, Cond.instanceMethod yX1_isOpenAcross, Cond.selects RX1 yX1_isOpenAcross yX1_isOpenAcross, Cond.initialized RX1, Cond.code yX1_isOpenAcross cX1_isOpenAcross 3 (some .boolean), Cond.methodLink RX1 57 Lib.Math.abs.name, Cond.static Lib.Math.abs.name, Cond.code Lib.Math.abs.name Lib.Math.abs.code 1 (some .int), Cond.fieldLink RX1 20 "TideWords$Gates" "slacks" "LTideWords$Cells;", Cond.methodLink RX1 53 yX1_isShut, Cond.instanceMethod yX1_isShut, Cond.selects RX1 yX1_isShut yX1_isShut, Cond.code yX1_isShut cX1_isShut 2 (some .boolean), Cond.fieldLink RX1 26 "TideWords$Gates" "shuts" "LTideWords$Cells;", Cond.methodLink RX1 49 yX0_get, Cond.methodLink RX6 225 yX5_openStepsFrom, Cond.instanceMethod yX5_openStepsFrom, Cond.selects RX5 yX5_openStepsFrom yX5_openStepsFrom, Cond.code yX5_openStepsFrom cX5_openStepsFrom 4 (some .int)]
def wsX6_openFor : List Cond := .code yX6_openFor cX6_openFor 3 (some .int) :: ((wsX6_openFor_r1 ++ (wsX6_openFor_r2 ++ wsX6_openFor_r3)) ++ wsX60 ++ wsX50 ++ wsX30 ++ wsX00 ++ wsX10)
def wsX6_untilPassed_r1 : List Cond := [Cond.fieldLink RX6 16 "TideWords" "trial" "LTideWords$World;", Cond.fieldLink RX6 10 "TideWords" "now" "LTideWords$World;", Cond.fieldLink RX6 117 "TideWords$World" "words" "LTideWords$Words;", Cond.methodLink RX6 179 yX6_isWord, Cond.instanceMethod yX6_isWord, Cond.selects RX6 yX6_isWord yX6_isWord, Cond.initialized RX6, Cond.code yX6_isWord cX6_isWord 2 (some .boolean), Cond.fieldLink RX6 121 "TideWords$Words" "total" "I", Cond.methodLink RX6 49 yX6_isWithin, Cond.static yX6_isWithin, Cond.code yX6_isWithin cX6_isWithin 3 (some .boolean), Cond.methodLink RX6 228 yX5_copyFrom, Cond.instanceMethod yX5_copyFrom, Cond.selects RX5 yX5_copyFrom yX5_copyFrom, Cond.initialized RX5, Cond.code yX5_copyFrom cX5_copyFrom 2 none, Cond.fieldLink RX5 12 "TideWords$World" "tides" "LTideWords$Tides;", Cond.fieldLink RX5 21 "TideWords$World" "gates" "LTideWords$Gates;", Cond.fieldLink RX5 28 "TideWords$World" "words" "LTideWords$Words;", Cond.fieldLink RX5 40 "TideWords$World" "steps" "I", Cond.fieldLink RX5 93 "TideWords$World" "letters" "I", Cond.fieldLink RX5 67 "TideWords$World" "idleSteps" "I", Cond.methodLink RX5 134 yX3_copyFrom]
def wsX6_untilPassed_r2 : List Cond := [Cond.instanceMethod yX3_copyFrom, Cond.selects RX3 yX3_copyFrom yX3_copyFrom, Cond.initialized RX3, Cond.code yX3_copyFrom cX3_copyFrom 2 none, Cond.fieldLink RX3 14 "TideWords$Tides" "means" "LTideWords$Cells;", Cond.fieldLink RX3 20 "TideWords$Tides" "swings" "LTideWords$Cells;", Cond.fieldLink RX3 23 "TideWords$Tides" "periods" "LTideWords$Cells;", Cond.fieldLink RX3 26 "TideWords$Tides" "lies" "LTideWords$Cells;", Cond.methodLink RX3 53 yX0_copyFrom, Cond.instanceMethod yX0_copyFrom, Cond.selects RX0 yX0_copyFrom yX0_copyFrom, Cond.initialized RX0, Cond.code yX0_copyFrom cX0_copyFrom 2 none, Cond.fieldLink RX0 13 "TideWords$Cells" "cells" "[I", Cond.methodLink RX0 19 Lib.Math.min.name, Cond.static Lib.Math.min.name, Cond.initialized "java/lang/Math", Cond.code Lib.Math.min.name Lib.Math.min.code 2 (some .int), Cond.methodLink RX0 22 arraycopyName, Cond.native arraycopyName, Cond.static arraycopyName, Cond.initialized "java/lang/System", Cond.methodLink RX5 138 yX1_copyFrom, Cond.instanceMethod yX1_copyFrom]
def wsX6_untilPassed_r3 : List Cond := [Cond.selects RX1 yX1_copyFrom yX1_copyFrom, Cond.initialized RX1, Cond.code yX1_copyFrom cX1_copyFrom 2 none, Cond.fieldLink RX1 14 "TideWords$Gates" "sides" "LTideWords$Cells;", Cond.fieldLink RX1 20 "TideWords$Gates" "slacks" "LTideWords$Cells;", Cond.fieldLink RX1 23 "TideWords$Gates" "ways" "LTideWords$Cells;", Cond.fieldLink RX1 26 "TideWords$Gates" "shuts" "LTideWords$Cells;", Cond.fieldLink RX1 29 "TideWords$Gates" "held" "LTideWords$Cells;", Cond.fieldLink RX1 32 "TideWords$Gates" "lettersDone" "LTideWords$Cells;", Cond.fieldLink RX1 35 "TideWords$Gates" "passedWords" "LTideWords$Cells;", Cond.fieldLink RX1 38 "TideWords$Gates" "vainLetters" "LTideWords$Cells;", Cond.methodLink RX1 65 yX0_copyFrom, Cond.methodLink RX5 141 yX4_copyFrom, Cond.instanceMethod yX4_copyFrom, Cond.selects RX4 yX4_copyFrom yX4_copyFrom, Cond.initialized RX4, Cond.code yX4_copyFrom cX4_copyFrom 2 none, Cond.fieldLink RX4 14 "TideWords$Words" "lengths" "LTideWords$Cells;", Cond.fieldLink RX4 20 "TideWords$Words" "letters" "LTideWords$Cells;", Cond.fieldLink RX4 23 "TideWords$Words" "passedSteps" "LTideWords$Cells;", Cond.fieldLink RX4 26 "TideWords$Words" "passedGates" "LTideWords$Cells;", Cond.fieldLink RX4 29 "TideWords$Words" "timesBack" "LTideWords$Cells;", Cond.fieldLink RX4 32 "TideWords$Words" "rows" "LTideWords$Cells;", Cond.fieldLink RX4 35 "TideWords$Words" "rowLengths" "LTideWords$Cells;"]
def wsX6_untilPassed_r4 : List Cond := [Cond.fieldLink RX4 38 "TideWords$Words" "total" "I", Cond.methodLink RX4 70 yX0_copyFrom, Cond.methodLink RX6 191 yX4_hasPassed, Cond.instanceMethod yX4_hasPassed, Cond.selects RX4 yX4_hasPassed yX4_hasPassed, Cond.code yX4_hasPassed cX4_hasPassed 2 (some .boolean), Cond.methodLink RX4 49 yX0_get, Cond.instanceMethod yX0_get, Cond.selects RX0 yX0_get yX0_get, Cond.code yX0_get cX0_get 2 (some .int), Cond.methodLink RX6 139 yX5_makeSteps, Cond.instanceMethod yX5_makeSteps, Cond.selects RX5 yX5_makeSteps yX5_makeSteps, Cond.code yX5_makeSteps cX5_makeSteps 3 none, Cond.methodLink RX5 32 yX3_gapAt, Cond.instanceMethod yX3_gapAt, Cond.selects RX3 yX3_gapAt yX3_gapAt, Cond.code yX3_gapAt cX3_gapAt 2 (some .int), Cond.methodLink RX3 50 yX3_toldAt, Cond.instanceMethod yX3_toldAt, Cond.selects RX3 yX3_toldAt yX3_toldAt, Cond.code yX3_toldAt cX3_toldAt 3 (some .int), Cond.methodLink RX3 47 yX3_levelAt, Cond.instanceMethod yX3_levelAt]
def wsX6_untilPassed_r5 : List Cond := [Cond.selects RX3 yX3_levelAt yX3_levelAt, Cond.code yX3_levelAt cX3_levelAt 6 (some .int), Cond.methodLink RX3 41 Lib.Math.min.name, Cond.methodLink RX3 37 yX0_get, Cond.methodLink RX5 54 yX5_stepAcross, Cond.instanceMethod yX5_stepAcross, Cond.selects RX5 yX5_stepAcross yX5_stepAcross, Cond.code yX5_stepAcross cX5_stepAcross 4 none, Cond.methodLink RX5 36 yX1_isOpenAcross, Cond.instanceMethod yX1_isOpenAcross, Cond.selects RX1 yX1_isOpenAcross yX1_isOpenAcross, Cond.code yX1_isOpenAcross cX1_isOpenAcross 3 (some .boolean), Cond.methodLink RX1 57 Lib.Math.abs.name, Cond.static Lib.Math.abs.name, Cond.code Lib.Math.abs.name Lib.Math.abs.code 1 (some .int), Cond.methodLink RX1 53 yX1_isShut, Cond.instanceMethod yX1_isShut, Cond.selects RX1 yX1_isShut yX1_isShut, Cond.code yX1_isShut cX1_isShut 2 (some .boolean), Cond.methodLink RX1 49 yX0_get, Cond.methodLink RX5 58 yX5_takeWord, Cond.instanceMethod yX5_takeWord, Cond.selects RX5 yX5_takeWord yX5_takeWord, Cond.code yX5_takeWord cX5_takeWord 2 none]
def wsX6_untilPassed_r6 : List Cond := [Cond.fieldLink RX5 74 "TideWords$Gates" "held" "LTideWords$Cells;", Cond.fieldLink RX5 78 "TideWords$Gates" "sides" "LTideWords$Cells;", Cond.methodLink RX5 70 yX1_hasWord, Cond.instanceMethod yX1_hasWord, Cond.selects RX1 yX1_hasWord yX1_hasWord, Cond.code yX1_hasWord cX1_hasWord 2 (some .boolean), Cond.methodLink RX5 81 yX0_get, Cond.methodLink RX5 86 yX4_takeWaiting, Cond.instanceMethod yX4_takeWaiting, Cond.selects RX4 yX4_takeWaiting yX4_takeWaiting, Cond.code yX4_takeWaiting cX4_takeWaiting 5 (some .int), Cond.methodLink RX4 56 yX4_wordAt, Cond.instanceMethod yX4_wordAt, Cond.selects RX4 yX4_wordAt yX4_wordAt, Cond.code yX4_wordAt cX4_wordAt 3 (some .int), Cond.methodLink RX4 63 yX4_hasPassed, Cond.methodLink RX4 67 yX4_removeFrom, Cond.instanceMethod yX4_removeFrom, Cond.selects RX4 yX4_removeFrom yX4_removeFrom, Cond.code yX4_removeFrom cX4_removeFrom 6 none, Cond.methodLink RX4 42 yX0_set, Cond.instanceMethod yX0_set, Cond.selects RX0 yX0_set yX0_set, Cond.code yX0_set cX0_set 3 none]
def wsX6_untilPassed_r7 : List Cond := [Cond.methodLink RX5 89 yX0_set, Cond.methodLink RX5 61 yX5_passLetter, Cond.instanceMethod yX5_passLetter, Cond.selects RX5 yX5_passLetter yX5_passLetter, Cond.code yX5_passLetter cX5_passLetter 3 none, Cond.fieldLink RX5 96 "TideWords$Gates" "lettersDone" "LTideWords$Cells;", Cond.fieldLink RX5 102 "TideWords$Words" "lengths" "LTideWords$Cells;", Cond.fieldLink RX5 108 "TideWords$Gates" "passedWords" "LTideWords$Cells;", Cond.methodLink RX5 99 yX0_add, Cond.instanceMethod yX0_add, Cond.selects RX0 yX0_add yX0_add, Cond.code yX0_add cX0_add 3 none, Cond.methodLink RX5 105 yX1_release, Cond.instanceMethod yX1_release, Cond.selects RX1 yX1_release yX1_release, Cond.code yX1_release cX1_release 2 none, Cond.methodLink RX1 45 yX0_set, Cond.methodLink RX5 111 yX4_markPassed, Cond.instanceMethod yX4_markPassed, Cond.selects RX4 yX4_markPassed yX4_markPassed, Cond.code yX4_markPassed cX4_markPassed 4 none, Cond.methodLink RX5 115 yX4_addLast, Cond.instanceMethod yX4_addLast, Cond.selects RX4 yX4_addLast yX4_addLast]
def wsX6_untilPassed_r8 : List Cond := [Cond.code yX4_addLast cX4_addLast 4 none, Cond.methodLink RX5 64 yX5_sendBack, Cond.instanceMethod yX5_sendBack, Cond.selects RX5 yX5_sendBack yX5_sendBack, Cond.code yX5_sendBack cX5_sendBack 3 none, Cond.fieldLink RX5 118 "TideWords$Gates" "ways" "LTideWords$Cells;", Cond.fieldLink RX5 121 "TideWords$Gates" "vainLetters" "LTideWords$Cells;", Cond.fieldLink RX5 124 "TideWords$Words" "timesBack" "LTideWords$Cells;", Cond.methodLink RX5 127 yX4_addFirst, Cond.instanceMethod yX4_addFirst, Cond.selects RX4 yX4_addFirst yX4_addFirst, Cond.code yX4_addFirst cX4_addFirst 6 none]
def wsX6_untilPassed : List Cond := .code yX6_untilPassed cX6_untilPassed 3 (some .int) :: ((wsX6_untilPassed_r1 ++ (wsX6_untilPassed_r2 ++ (wsX6_untilPassed_r3 ++ (wsX6_untilPassed_r4 ++ (wsX6_untilPassed_r5 ++ (wsX6_untilPassed_r6 ++ (wsX6_untilPassed_r7 ++ wsX6_untilPassed_r8))))))) ++ wsX60 ++ wsX50 ++ wsX40 ++ wsX30 ++ wsX00 ++ wsX10)
def wsX6_ifRun_r1 : List Cond := [Cond.fieldLink RX6 16 "TideWords" "trial" "LTideWords$World;", Cond.fieldLink RX6 10 "TideWords" "now" "LTideWords$World;", Cond.methodLink RX6 49 yX6_isWithin, Cond.static yX6_isWithin, Cond.initialized RX6, Cond.code yX6_isWithin cX6_isWithin 3 (some .boolean), Cond.methodLink RX6 228 yX5_copyFrom, Cond.instanceMethod yX5_copyFrom, Cond.selects RX5 yX5_copyFrom yX5_copyFrom, Cond.initialized RX5, Cond.code yX5_copyFrom cX5_copyFrom 2 none, Cond.fieldLink RX5 12 "TideWords$World" "tides" "LTideWords$Tides;", Cond.fieldLink RX5 21 "TideWords$World" "gates" "LTideWords$Gates;", Cond.fieldLink RX5 28 "TideWords$World" "words" "LTideWords$Words;", Cond.fieldLink RX5 40 "TideWords$World" "steps" "I", Cond.fieldLink RX5 93 "TideWords$World" "letters" "I", Cond.fieldLink RX5 67 "TideWords$World" "idleSteps" "I", Cond.methodLink RX5 134 yX3_copyFrom, Cond.instanceMethod yX3_copyFrom, Cond.selects RX3 yX3_copyFrom yX3_copyFrom, Cond.initialized RX3, Cond.code yX3_copyFrom cX3_copyFrom 2 none, Cond.fieldLink RX3 14 "TideWords$Tides" "means" "LTideWords$Cells;", Cond.fieldLink RX3 20 "TideWords$Tides" "swings" "LTideWords$Cells;"]
def wsX6_ifRun_r2 : List Cond := [Cond.fieldLink RX3 23 "TideWords$Tides" "periods" "LTideWords$Cells;", Cond.fieldLink RX3 26 "TideWords$Tides" "lies" "LTideWords$Cells;", Cond.methodLink RX3 53 yX0_copyFrom, Cond.instanceMethod yX0_copyFrom, Cond.selects RX0 yX0_copyFrom yX0_copyFrom, Cond.initialized RX0, Cond.code yX0_copyFrom cX0_copyFrom 2 none, Cond.fieldLink RX0 13 "TideWords$Cells" "cells" "[I", Cond.methodLink RX0 19 Lib.Math.min.name, Cond.static Lib.Math.min.name, Cond.initialized "java/lang/Math", Cond.code Lib.Math.min.name Lib.Math.min.code 2 (some .int), Cond.methodLink RX0 22 arraycopyName, Cond.native arraycopyName, Cond.static arraycopyName, Cond.initialized "java/lang/System", Cond.methodLink RX5 138 yX1_copyFrom, Cond.instanceMethod yX1_copyFrom, Cond.selects RX1 yX1_copyFrom yX1_copyFrom, Cond.initialized RX1, Cond.code yX1_copyFrom cX1_copyFrom 2 none, Cond.fieldLink RX1 14 "TideWords$Gates" "sides" "LTideWords$Cells;", Cond.fieldLink RX1 20 "TideWords$Gates" "slacks" "LTideWords$Cells;", Cond.fieldLink RX1 23 "TideWords$Gates" "ways" "LTideWords$Cells;"]
def wsX6_ifRun_r3 : List Cond := [Cond.fieldLink RX1 26 "TideWords$Gates" "shuts" "LTideWords$Cells;", Cond.fieldLink RX1 29 "TideWords$Gates" "held" "LTideWords$Cells;", Cond.fieldLink RX1 32 "TideWords$Gates" "lettersDone" "LTideWords$Cells;", Cond.fieldLink RX1 35 "TideWords$Gates" "passedWords" "LTideWords$Cells;", Cond.fieldLink RX1 38 "TideWords$Gates" "vainLetters" "LTideWords$Cells;", Cond.methodLink RX1 65 yX0_copyFrom, Cond.methodLink RX5 141 yX4_copyFrom, Cond.instanceMethod yX4_copyFrom, Cond.selects RX4 yX4_copyFrom yX4_copyFrom, Cond.initialized RX4, Cond.code yX4_copyFrom cX4_copyFrom 2 none, Cond.fieldLink RX4 14 "TideWords$Words" "lengths" "LTideWords$Cells;", Cond.fieldLink RX4 20 "TideWords$Words" "letters" "LTideWords$Cells;", Cond.fieldLink RX4 23 "TideWords$Words" "passedSteps" "LTideWords$Cells;", Cond.fieldLink RX4 26 "TideWords$Words" "passedGates" "LTideWords$Cells;", Cond.fieldLink RX4 29 "TideWords$Words" "timesBack" "LTideWords$Cells;", Cond.fieldLink RX4 32 "TideWords$Words" "rows" "LTideWords$Cells;", Cond.fieldLink RX4 35 "TideWords$Words" "rowLengths" "LTideWords$Cells;", Cond.fieldLink RX4 38 "TideWords$Words" "total" "I", Cond.methodLink RX4 70 yX0_copyFrom, Cond.methodLink RX6 139 yX5_makeSteps, Cond.instanceMethod yX5_makeSteps, Cond.selects RX5 yX5_makeSteps yX5_makeSteps, Cond.code yX5_makeSteps cX5_makeSteps 3 none]
def wsX6_ifRun_r4 : List Cond := [Cond.methodLink RX5 32 yX3_gapAt, Cond.instanceMethod yX3_gapAt, Cond.selects RX3 yX3_gapAt yX3_gapAt, Cond.code yX3_gapAt cX3_gapAt 2 (some .int), Cond.methodLink RX3 50 yX3_toldAt, Cond.instanceMethod yX3_toldAt, Cond.selects RX3 yX3_toldAt yX3_toldAt, Cond.code yX3_toldAt cX3_toldAt 3 (some .int), Cond.methodLink RX3 47 yX3_levelAt, Cond.instanceMethod yX3_levelAt, Cond.selects RX3 yX3_levelAt yX3_levelAt, Cond.code yX3_levelAt cX3_levelAt 6 (some .int), Cond.methodLink RX3 41 Lib.Math.min.name, Cond.methodLink RX3 37 yX0_get, Cond.instanceMethod yX0_get, Cond.selects RX0 yX0_get yX0_get, Cond.code yX0_get cX0_get 2 (some .int), Cond.methodLink RX5 54 yX5_stepAcross, Cond.instanceMethod yX5_stepAcross, Cond.selects RX5 yX5_stepAcross yX5_stepAcross, Cond.code yX5_stepAcross cX5_stepAcross 4 none, Cond.methodLink RX5 36 yX1_isOpenAcross, Cond.instanceMethod yX1_isOpenAcross, Cond.selects RX1 yX1_isOpenAcross yX1_isOpenAcross]
def wsX6_ifRun_r5 : List Cond := [Cond.code yX1_isOpenAcross cX1_isOpenAcross 3 (some .boolean), Cond.methodLink RX1 57 Lib.Math.abs.name, Cond.static Lib.Math.abs.name, Cond.code Lib.Math.abs.name Lib.Math.abs.code 1 (some .int), Cond.methodLink RX1 53 yX1_isShut, Cond.instanceMethod yX1_isShut, Cond.selects RX1 yX1_isShut yX1_isShut, Cond.code yX1_isShut cX1_isShut 2 (some .boolean), Cond.methodLink RX1 49 yX0_get, Cond.methodLink RX5 58 yX5_takeWord, Cond.instanceMethod yX5_takeWord, Cond.selects RX5 yX5_takeWord yX5_takeWord, Cond.code yX5_takeWord cX5_takeWord 2 none, Cond.fieldLink RX5 74 "TideWords$Gates" "held" "LTideWords$Cells;", Cond.fieldLink RX5 78 "TideWords$Gates" "sides" "LTideWords$Cells;", Cond.methodLink RX5 70 yX1_hasWord, Cond.instanceMethod yX1_hasWord, Cond.selects RX1 yX1_hasWord yX1_hasWord, Cond.code yX1_hasWord cX1_hasWord 2 (some .boolean), Cond.methodLink RX5 81 yX0_get, Cond.methodLink RX5 86 yX4_takeWaiting, Cond.instanceMethod yX4_takeWaiting, Cond.selects RX4 yX4_takeWaiting yX4_takeWaiting, Cond.code yX4_takeWaiting cX4_takeWaiting 5 (some .int)]
def wsX6_ifRun_r6 : List Cond := [Cond.methodLink RX4 49 yX0_get, Cond.methodLink RX4 56 yX4_wordAt, Cond.instanceMethod yX4_wordAt, Cond.selects RX4 yX4_wordAt yX4_wordAt, Cond.code yX4_wordAt cX4_wordAt 3 (some .int), Cond.methodLink RX4 63 yX4_hasPassed, Cond.instanceMethod yX4_hasPassed, Cond.selects RX4 yX4_hasPassed yX4_hasPassed, Cond.code yX4_hasPassed cX4_hasPassed 2 (some .boolean), Cond.methodLink RX4 67 yX4_removeFrom, Cond.instanceMethod yX4_removeFrom, Cond.selects RX4 yX4_removeFrom yX4_removeFrom, Cond.code yX4_removeFrom cX4_removeFrom 6 none, Cond.methodLink RX4 42 yX0_set, Cond.instanceMethod yX0_set, Cond.selects RX0 yX0_set yX0_set, Cond.code yX0_set cX0_set 3 none, Cond.methodLink RX5 89 yX0_set, Cond.methodLink RX5 61 yX5_passLetter, Cond.instanceMethod yX5_passLetter, Cond.selects RX5 yX5_passLetter yX5_passLetter, Cond.code yX5_passLetter cX5_passLetter 3 none, Cond.fieldLink RX5 96 "TideWords$Gates" "lettersDone" "LTideWords$Cells;", Cond.fieldLink RX5 102 "TideWords$Words" "lengths" "LTideWords$Cells;"]
def wsX6_ifRun_r7 : List Cond := [Cond.fieldLink RX5 108 "TideWords$Gates" "passedWords" "LTideWords$Cells;", Cond.methodLink RX5 99 yX0_add, Cond.instanceMethod yX0_add, Cond.selects RX0 yX0_add yX0_add, Cond.code yX0_add cX0_add 3 none, Cond.methodLink RX5 105 yX1_release, Cond.instanceMethod yX1_release, Cond.selects RX1 yX1_release yX1_release, Cond.code yX1_release cX1_release 2 none, Cond.methodLink RX1 45 yX0_set, Cond.methodLink RX5 111 yX4_markPassed, Cond.instanceMethod yX4_markPassed, Cond.selects RX4 yX4_markPassed yX4_markPassed, Cond.code yX4_markPassed cX4_markPassed 4 none, Cond.methodLink RX5 115 yX4_addLast, Cond.instanceMethod yX4_addLast, Cond.selects RX4 yX4_addLast yX4_addLast, Cond.code yX4_addLast cX4_addLast 4 none, Cond.methodLink RX5 64 yX5_sendBack, Cond.instanceMethod yX5_sendBack, Cond.selects RX5 yX5_sendBack yX5_sendBack, Cond.code yX5_sendBack cX5_sendBack 3 none, Cond.fieldLink RX5 118 "TideWords$Gates" "ways" "LTideWords$Cells;", Cond.fieldLink RX5 121 "TideWords$Gates" "vainLetters" "LTideWords$Cells;"]
def wsX6_ifRun_r8 : List Cond := [Cond.fieldLink RX5 124 "TideWords$Words" "timesBack" "LTideWords$Cells;", Cond.methodLink RX5 127 yX4_addFirst, Cond.instanceMethod yX4_addFirst, Cond.selects RX4 yX4_addFirst yX4_addFirst, Cond.code yX4_addFirst cX4_addFirst 6 none, Cond.methodLink RX6 232 yX5_tally, Cond.instanceMethod yX5_tally, Cond.selects RX5 yX5_tally yX5_tally, Cond.code yX5_tally cX5_tally 2 (some .int), Cond.methodLink RX5 130 yX0_sum, Cond.instanceMethod yX0_sum, Cond.selects RX0 yX0_sum yX0_sum, Cond.code yX0_sum cX0_sum 3 (some .int)]
def wsX6_ifRun : List Cond := .code yX6_ifRun cX6_ifRun 3 (some .int) :: ((wsX6_ifRun_r1 ++ (wsX6_ifRun_r2 ++ (wsX6_ifRun_r3 ++ (wsX6_ifRun_r4 ++ (wsX6_ifRun_r5 ++ (wsX6_ifRun_r6 ++ (wsX6_ifRun_r7 ++ wsX6_ifRun_r8))))))) ++ wsX60 ++ wsX50 ++ wsX30 ++ wsX00 ++ wsX10 ++ wsX40)
def wsX6_findGapsAhead_r1 : List Cond := [Cond.fieldLink RX6 42 "TideWords" "gapsAhead" "LTideWords$Cells;", Cond.fieldLink RX6 10 "TideWords" "now" "LTideWords$World;", Cond.fieldLink RX6 56 "TideWords$World" "tides" "LTideWords$Tides;", Cond.fieldLink RX6 66 "TideWords$World" "steps" "I", Cond.methodLink RX6 286 yX3_gapAt, Cond.instanceMethod yX3_gapAt, Cond.selects RX3 yX3_gapAt yX3_gapAt, Cond.initialized RX3, Cond.code yX3_gapAt cX3_gapAt 2 (some .int), Cond.methodLink RX3 50 yX3_toldAt, Cond.instanceMethod yX3_toldAt, Cond.selects RX3 yX3_toldAt yX3_toldAt, Cond.code yX3_toldAt cX3_toldAt 3 (some .int), Cond.fieldLink RX3 26 "TideWords$Tides" "lies" "LTideWords$Cells;", Cond.methodLink RX3 47 yX3_levelAt, Cond.instanceMethod yX3_levelAt, Cond.selects RX3 yX3_levelAt yX3_levelAt, Cond.code yX3_levelAt cX3_levelAt 6 (some .int), Cond.fieldLink RX3 23 "TideWords$Tides" "periods" "LTideWords$Cells;", Cond.fieldLink RX3 14 "TideWords$Tides" "means" "LTideWords$Cells;", Cond.fieldLink RX3 20 "TideWords$Tides" "swings" "LTideWords$Cells;", Cond.methodLink RX3 41 Lib.Math.min.name, Cond.static Lib.Math.min.name, Cond.initialized "java/lang/Math"]
def wsX6_findGapsAhead_r2 : List Cond := [Cond.code Lib.Math.min.name Lib.Math.min.code 2 (some .int), Cond.methodLink RX3 37 yX0_get, Cond.instanceMethod yX0_get, Cond.selects RX0 yX0_get yX0_get, Cond.initialized RX0, Cond.code yX0_get cX0_get 2 (some .int), Cond.fieldLink RX0 13 "TideWords$Cells" "cells" "[I", Cond.methodLink RX6 81 yX0_set, Cond.instanceMethod yX0_set, Cond.selects RX0 yX0_set yX0_set, Cond.code yX0_set cX0_set 3 none]
def wsX6_findGapsAhead : List Cond := .code yX6_findGapsAhead cX6_findGapsAhead 2 none :: ((wsX6_findGapsAhead_r1 ++ wsX6_findGapsAhead_r2) ++ wsX60 ++ wsX50 ++ wsX30 ++ wsX00)
def wsX6_wordsPassingWith_r1 : List Cond := [Cond.fieldLink RX6 16 "TideWords" "trial" "LTideWords$World;", Cond.fieldLink RX6 10 "TideWords" "now" "LTideWords$World;", Cond.fieldLink RX6 88 "TideWords$World" "gates" "LTideWords$Gates;", Cond.fieldLink RX6 100 "TideWords$Gates" "slacks" "LTideWords$Cells;", Cond.fieldLink RX6 42 "TideWords" "gapsAhead" "LTideWords$Cells;", Cond.fieldLink RX6 136 "TideWords$Gates" "passedWords" "LTideWords$Cells;", Cond.methodLink RX6 228 yX5_copyFrom, Cond.instanceMethod yX5_copyFrom, Cond.selects RX5 yX5_copyFrom yX5_copyFrom, Cond.initialized RX5, Cond.code yX5_copyFrom cX5_copyFrom 2 none, Cond.fieldLink RX5 12 "TideWords$World" "tides" "LTideWords$Tides;", Cond.fieldLink RX5 21 "TideWords$World" "gates" "LTideWords$Gates;", Cond.fieldLink RX5 28 "TideWords$World" "words" "LTideWords$Words;", Cond.fieldLink RX5 40 "TideWords$World" "steps" "I", Cond.fieldLink RX5 93 "TideWords$World" "letters" "I", Cond.fieldLink RX5 67 "TideWords$World" "idleSteps" "I", Cond.methodLink RX5 134 yX3_copyFrom, Cond.instanceMethod yX3_copyFrom, Cond.selects RX3 yX3_copyFrom yX3_copyFrom, Cond.initialized RX3, Cond.code yX3_copyFrom cX3_copyFrom 2 none, Cond.fieldLink RX3 14 "TideWords$Tides" "means" "LTideWords$Cells;", Cond.fieldLink RX3 20 "TideWords$Tides" "swings" "LTideWords$Cells;"]
def wsX6_wordsPassingWith_r2 : List Cond := [Cond.fieldLink RX3 23 "TideWords$Tides" "periods" "LTideWords$Cells;", Cond.fieldLink RX3 26 "TideWords$Tides" "lies" "LTideWords$Cells;", Cond.methodLink RX3 53 yX0_copyFrom, Cond.instanceMethod yX0_copyFrom, Cond.selects RX0 yX0_copyFrom yX0_copyFrom, Cond.initialized RX0, Cond.code yX0_copyFrom cX0_copyFrom 2 none, Cond.fieldLink RX0 13 "TideWords$Cells" "cells" "[I", Cond.methodLink RX0 19 Lib.Math.min.name, Cond.static Lib.Math.min.name, Cond.initialized "java/lang/Math", Cond.code Lib.Math.min.name Lib.Math.min.code 2 (some .int), Cond.methodLink RX0 22 arraycopyName, Cond.native arraycopyName, Cond.static arraycopyName, Cond.initialized "java/lang/System", Cond.methodLink RX5 138 yX1_copyFrom, Cond.instanceMethod yX1_copyFrom, Cond.selects RX1 yX1_copyFrom yX1_copyFrom, Cond.initialized RX1, Cond.code yX1_copyFrom cX1_copyFrom 2 none, Cond.fieldLink RX1 14 "TideWords$Gates" "sides" "LTideWords$Cells;", Cond.fieldLink RX1 20 "TideWords$Gates" "slacks" "LTideWords$Cells;", Cond.fieldLink RX1 23 "TideWords$Gates" "ways" "LTideWords$Cells;"]
def wsX6_wordsPassingWith_r3 : List Cond := [Cond.fieldLink RX1 26 "TideWords$Gates" "shuts" "LTideWords$Cells;", Cond.fieldLink RX1 29 "TideWords$Gates" "held" "LTideWords$Cells;", Cond.fieldLink RX1 32 "TideWords$Gates" "lettersDone" "LTideWords$Cells;", Cond.fieldLink RX1 35 "TideWords$Gates" "passedWords" "LTideWords$Cells;", Cond.fieldLink RX1 38 "TideWords$Gates" "vainLetters" "LTideWords$Cells;", Cond.methodLink RX1 65 yX0_copyFrom, Cond.methodLink RX5 141 yX4_copyFrom, Cond.instanceMethod yX4_copyFrom, Cond.selects RX4 yX4_copyFrom yX4_copyFrom, Cond.initialized RX4, Cond.code yX4_copyFrom cX4_copyFrom 2 none, Cond.fieldLink RX4 14 "TideWords$Words" "lengths" "LTideWords$Cells;", Cond.fieldLink RX4 20 "TideWords$Words" "letters" "LTideWords$Cells;", Cond.fieldLink RX4 23 "TideWords$Words" "passedSteps" "LTideWords$Cells;", Cond.fieldLink RX4 26 "TideWords$Words" "passedGates" "LTideWords$Cells;", Cond.fieldLink RX4 29 "TideWords$Words" "timesBack" "LTideWords$Cells;", Cond.fieldLink RX4 32 "TideWords$Words" "rows" "LTideWords$Cells;", Cond.fieldLink RX4 35 "TideWords$Words" "rowLengths" "LTideWords$Cells;", Cond.fieldLink RX4 38 "TideWords$Words" "total" "I", Cond.methodLink RX4 70 yX0_copyFrom, Cond.methodLink RX6 81 yX0_set, Cond.instanceMethod yX0_set, Cond.selects RX0 yX0_set yX0_set, Cond.code yX0_set cX0_set 3 none]
def wsX6_wordsPassingWith_r4 : List Cond := [Cond.methodLink RX6 77 yX0_get, Cond.instanceMethod yX0_get, Cond.selects RX0 yX0_get yX0_get, Cond.code yX0_get cX0_get 2 (some .int), Cond.methodLink RX6 292 yX5_stepAcross, Cond.instanceMethod yX5_stepAcross, Cond.selects RX5 yX5_stepAcross yX5_stepAcross, Cond.code yX5_stepAcross cX5_stepAcross 4 none, Cond.methodLink RX5 36 yX1_isOpenAcross, Cond.instanceMethod yX1_isOpenAcross, Cond.selects RX1 yX1_isOpenAcross yX1_isOpenAcross, Cond.code yX1_isOpenAcross cX1_isOpenAcross 3 (some .boolean), Cond.methodLink RX1 57 Lib.Math.abs.name, Cond.static Lib.Math.abs.name, Cond.code Lib.Math.abs.name Lib.Math.abs.code 1 (some .int), Cond.methodLink RX1 53 yX1_isShut, Cond.instanceMethod yX1_isShut, Cond.selects RX1 yX1_isShut yX1_isShut, Cond.code yX1_isShut cX1_isShut 2 (some .boolean), Cond.methodLink RX1 49 yX0_get, Cond.methodLink RX5 58 yX5_takeWord, Cond.instanceMethod yX5_takeWord, Cond.selects RX5 yX5_takeWord yX5_takeWord, Cond.code yX5_takeWord cX5_takeWord 2 none]
def wsX6_wordsPassingWith_r5 : List Cond := [Cond.fieldLink RX5 74 "TideWords$Gates" "held" "LTideWords$Cells;", Cond.fieldLink RX5 78 "TideWords$Gates" "sides" "LTideWords$Cells;", Cond.methodLink RX5 70 yX1_hasWord, Cond.instanceMethod yX1_hasWord, Cond.selects RX1 yX1_hasWord yX1_hasWord, Cond.code yX1_hasWord cX1_hasWord 2 (some .boolean), Cond.methodLink RX5 81 yX0_get, Cond.methodLink RX5 86 yX4_takeWaiting, Cond.instanceMethod yX4_takeWaiting, Cond.selects RX4 yX4_takeWaiting yX4_takeWaiting, Cond.code yX4_takeWaiting cX4_takeWaiting 5 (some .int), Cond.methodLink RX4 49 yX0_get, Cond.methodLink RX4 56 yX4_wordAt, Cond.instanceMethod yX4_wordAt, Cond.selects RX4 yX4_wordAt yX4_wordAt, Cond.code yX4_wordAt cX4_wordAt 3 (some .int), Cond.methodLink RX4 63 yX4_hasPassed, Cond.instanceMethod yX4_hasPassed, Cond.selects RX4 yX4_hasPassed yX4_hasPassed, Cond.code yX4_hasPassed cX4_hasPassed 2 (some .boolean), Cond.methodLink RX4 67 yX4_removeFrom, Cond.instanceMethod yX4_removeFrom, Cond.selects RX4 yX4_removeFrom yX4_removeFrom, Cond.code yX4_removeFrom cX4_removeFrom 6 none]
def wsX6_wordsPassingWith_r6 : List Cond := [Cond.methodLink RX4 42 yX0_set, Cond.methodLink RX5 89 yX0_set, Cond.methodLink RX5 61 yX5_passLetter, Cond.instanceMethod yX5_passLetter, Cond.selects RX5 yX5_passLetter yX5_passLetter, Cond.code yX5_passLetter cX5_passLetter 3 none, Cond.fieldLink RX5 96 "TideWords$Gates" "lettersDone" "LTideWords$Cells;", Cond.fieldLink RX5 102 "TideWords$Words" "lengths" "LTideWords$Cells;", Cond.fieldLink RX5 108 "TideWords$Gates" "passedWords" "LTideWords$Cells;", Cond.methodLink RX5 99 yX0_add, Cond.instanceMethod yX0_add, Cond.selects RX0 yX0_add yX0_add, Cond.code yX0_add cX0_add 3 none, Cond.methodLink RX5 105 yX1_release, Cond.instanceMethod yX1_release, Cond.selects RX1 yX1_release yX1_release, Cond.code yX1_release cX1_release 2 none, Cond.methodLink RX1 45 yX0_set, Cond.methodLink RX5 111 yX4_markPassed, Cond.instanceMethod yX4_markPassed, Cond.selects RX4 yX4_markPassed yX4_markPassed, Cond.code yX4_markPassed cX4_markPassed 4 none, Cond.methodLink RX5 115 yX4_addLast, Cond.instanceMethod yX4_addLast]
def wsX6_wordsPassingWith_r7 : List Cond := [Cond.selects RX4 yX4_addLast yX4_addLast, Cond.code yX4_addLast cX4_addLast 4 none, Cond.methodLink RX5 64 yX5_sendBack, Cond.instanceMethod yX5_sendBack, Cond.selects RX5 yX5_sendBack yX5_sendBack, Cond.code yX5_sendBack cX5_sendBack 3 none, Cond.fieldLink RX5 118 "TideWords$Gates" "ways" "LTideWords$Cells;", Cond.fieldLink RX5 121 "TideWords$Gates" "vainLetters" "LTideWords$Cells;", Cond.fieldLink RX5 124 "TideWords$Words" "timesBack" "LTideWords$Cells;", Cond.methodLink RX5 127 yX4_addFirst, Cond.instanceMethod yX4_addFirst, Cond.selects RX4 yX4_addFirst yX4_addFirst, Cond.code yX4_addFirst cX4_addFirst 6 none, Cond.methodLink RX6 110 yX0_sum, Cond.instanceMethod yX0_sum, Cond.selects RX0 yX0_sum yX0_sum, Cond.code yX0_sum cX0_sum 3 (some .int)]
def wsX6_wordsPassingWith : List Cond := .code yX6_wordsPassingWith cX6_wordsPassingWith 4 (some .int) :: ((wsX6_wordsPassingWith_r1 ++ (wsX6_wordsPassingWith_r2 ++ (wsX6_wordsPassingWith_r3 ++ (wsX6_wordsPassingWith_r4 ++ (wsX6_wordsPassingWith_r5 ++ (wsX6_wordsPassingWith_r6 ++ wsX6_wordsPassingWith_r7)))))) ++ wsX60 ++ wsX50 ++ wsX10 ++ wsX30 ++ wsX00 ++ wsX40)
def wsX6_hasGapAhead : List Cond := .code yX6_hasGapAhead cX6_hasGapAhead 3 (some .boolean) :: ([.fieldLink RX6 42 "TideWords" "gapsAhead" "LTideWords$Cells;", .methodLink RX6 289 Lib.Math.abs.name, .static Lib.Math.abs.name, .initialized "java/lang/Math", .code Lib.Math.abs.name Lib.Math.abs.code 1 (some .int), .methodLink RX6 77 yX0_get, .instanceMethod yX0_get, .selects RX0 yX0_get yX0_get, .initialized RX0, .code yX0_get cX0_get 2 (some .int), .fieldLink RX0 13 "TideWords$Cells" "cells" "[I"] ++ wsX60 ++ wsX00)
def wsX6_leastSlack_r1 : List Cond := [Cond.fieldLink RX6 10 "TideWords" "now" "LTideWords$World;", Cond.fieldLink RX6 117 "TideWords$World" "words" "LTideWords$Words;", Cond.fieldLink RX6 121 "TideWords$Words" "total" "I", Cond.fieldLink RX6 88 "TideWords$World" "gates" "LTideWords$Gates;", Cond.fieldLink RX6 136 "TideWords$Gates" "passedWords" "LTideWords$Cells;", Cond.methodLink RX6 85 yX6_isGate, Cond.static yX6_isGate, Cond.initialized RX6, Cond.code yX6_isGate cX6_isGate 1 (some .boolean), Cond.methodLink RX6 49 yX6_isWithin, Cond.static yX6_isWithin, Cond.code yX6_isWithin cX6_isWithin 3 (some .boolean), Cond.methodLink RX6 235 yX6_findGapsAhead, Cond.instanceMethod yX6_findGapsAhead, Cond.selects RX6 yX6_findGapsAhead yX6_findGapsAhead, Cond.code yX6_findGapsAhead cX6_findGapsAhead 2 none, Cond.fieldLink RX6 42 "TideWords" "gapsAhead" "LTideWords$Cells;", Cond.fieldLink RX6 56 "TideWords$World" "tides" "LTideWords$Tides;", Cond.fieldLink RX6 66 "TideWords$World" "steps" "I", Cond.methodLink RX6 286 yX3_gapAt, Cond.instanceMethod yX3_gapAt, Cond.selects RX3 yX3_gapAt yX3_gapAt, Cond.initialized RX3, Cond.code yX3_gapAt cX3_gapAt 2 (some .int)]
def wsX6_leastSlack_r2 : List Cond := [Cond.methodLink RX3 50 yX3_toldAt, Cond.instanceMethod yX3_toldAt, Cond.selects RX3 yX3_toldAt yX3_toldAt, Cond.code yX3_toldAt cX3_toldAt 3 (some .int), Cond.fieldLink RX3 26 "TideWords$Tides" "lies" "LTideWords$Cells;", Cond.methodLink RX3 47 yX3_levelAt, Cond.instanceMethod yX3_levelAt, Cond.selects RX3 yX3_levelAt yX3_levelAt, Cond.code yX3_levelAt cX3_levelAt 6 (some .int), Cond.fieldLink RX3 23 "TideWords$Tides" "periods" "LTideWords$Cells;", Cond.fieldLink RX3 14 "TideWords$Tides" "means" "LTideWords$Cells;", Cond.fieldLink RX3 20 "TideWords$Tides" "swings" "LTideWords$Cells;", Cond.methodLink RX3 41 Lib.Math.min.name, Cond.static Lib.Math.min.name, Cond.initialized "java/lang/Math", Cond.code Lib.Math.min.name Lib.Math.min.code 2 (some .int), Cond.methodLink RX3 37 yX0_get, Cond.instanceMethod yX0_get, Cond.selects RX0 yX0_get yX0_get, Cond.initialized RX0, Cond.code yX0_get cX0_get 2 (some .int), Cond.fieldLink RX0 13 "TideWords$Cells" "cells" "[I", Cond.methodLink RX6 81 yX0_set, Cond.instanceMethod yX0_set]
def wsX6_leastSlack_r3 : List Cond := [Cond.selects RX0 yX0_set yX0_set, Cond.code yX0_set cX0_set 3 none, Cond.methodLink RX6 110 yX0_sum, Cond.instanceMethod yX0_sum, Cond.selects RX0 yX0_sum yX0_sum, Cond.code yX0_sum cX0_sum 3 (some .int), Cond.methodLink RX6 238 yX6_wordsPassingWith, Cond.instanceMethod yX6_wordsPassingWith, Cond.selects RX6 yX6_wordsPassingWith yX6_wordsPassingWith, Cond.code yX6_wordsPassingWith cX6_wordsPassingWith 4 (some .int), Cond.fieldLink RX6 16 "TideWords" "trial" "LTideWords$World;", Cond.fieldLink RX6 100 "TideWords$Gates" "slacks" "LTideWords$Cells;", Cond.methodLink RX6 228 yX5_copyFrom, Cond.instanceMethod yX5_copyFrom, Cond.selects RX5 yX5_copyFrom yX5_copyFrom, Cond.initialized RX5, Cond.code yX5_copyFrom cX5_copyFrom 2 none, Cond.fieldLink RX5 12 "TideWords$World" "tides" "LTideWords$Tides;", Cond.fieldLink RX5 21 "TideWords$World" "gates" "LTideWords$Gates;", Cond.fieldLink RX5 28 "TideWords$World" "words" "LTideWords$Words;", Cond.fieldLink RX5 40 "TideWords$World" "steps" "I", Cond.fieldLink RX5 93 "TideWords$World" "letters" "I", Cond.fieldLink RX5 67 "TideWords$World" "idleSteps" "I", Cond.methodLink RX5 134 yX3_copyFrom]
def wsX6_leastSlack_r4 : List Cond := [Cond.instanceMethod yX3_copyFrom, Cond.selects RX3 yX3_copyFrom yX3_copyFrom, Cond.code yX3_copyFrom cX3_copyFrom 2 none, Cond.methodLink RX3 53 yX0_copyFrom, Cond.instanceMethod yX0_copyFrom, Cond.selects RX0 yX0_copyFrom yX0_copyFrom, Cond.code yX0_copyFrom cX0_copyFrom 2 none, Cond.methodLink RX0 19 Lib.Math.min.name, Cond.methodLink RX0 22 arraycopyName, Cond.native arraycopyName, Cond.static arraycopyName, Cond.initialized "java/lang/System", Cond.methodLink RX5 138 yX1_copyFrom, Cond.instanceMethod yX1_copyFrom, Cond.selects RX1 yX1_copyFrom yX1_copyFrom, Cond.initialized RX1, Cond.code yX1_copyFrom cX1_copyFrom 2 none, Cond.fieldLink RX1 14 "TideWords$Gates" "sides" "LTideWords$Cells;", Cond.fieldLink RX1 20 "TideWords$Gates" "slacks" "LTideWords$Cells;", Cond.fieldLink RX1 23 "TideWords$Gates" "ways" "LTideWords$Cells;", Cond.fieldLink RX1 26 "TideWords$Gates" "shuts" "LTideWords$Cells;", Cond.fieldLink RX1 29 "TideWords$Gates" "held" "LTideWords$Cells;", Cond.fieldLink RX1 32 "TideWords$Gates" "lettersDone" "LTideWords$Cells;", Cond.fieldLink RX1 35 "TideWords$Gates" "passedWords" "LTideWords$Cells;"]
def wsX6_leastSlack_r5 : List Cond := [Cond.fieldLink RX1 38 "TideWords$Gates" "vainLetters" "LTideWords$Cells;", Cond.methodLink RX1 65 yX0_copyFrom, Cond.methodLink RX5 141 yX4_copyFrom, Cond.instanceMethod yX4_copyFrom, Cond.selects RX4 yX4_copyFrom yX4_copyFrom, Cond.initialized RX4, Cond.code yX4_copyFrom cX4_copyFrom 2 none, Cond.fieldLink RX4 14 "TideWords$Words" "lengths" "LTideWords$Cells;", Cond.fieldLink RX4 20 "TideWords$Words" "letters" "LTideWords$Cells;", Cond.fieldLink RX4 23 "TideWords$Words" "passedSteps" "LTideWords$Cells;", Cond.fieldLink RX4 26 "TideWords$Words" "passedGates" "LTideWords$Cells;", Cond.fieldLink RX4 29 "TideWords$Words" "timesBack" "LTideWords$Cells;", Cond.fieldLink RX4 32 "TideWords$Words" "rows" "LTideWords$Cells;", Cond.fieldLink RX4 35 "TideWords$Words" "rowLengths" "LTideWords$Cells;", Cond.fieldLink RX4 38 "TideWords$Words" "total" "I", Cond.methodLink RX4 70 yX0_copyFrom, Cond.methodLink RX6 77 yX0_get, Cond.methodLink RX6 292 yX5_stepAcross, Cond.instanceMethod yX5_stepAcross, Cond.selects RX5 yX5_stepAcross yX5_stepAcross, Cond.code yX5_stepAcross cX5_stepAcross 4 none, Cond.methodLink RX5 36 yX1_isOpenAcross, Cond.instanceMethod yX1_isOpenAcross, Cond.selects RX1 yX1_isOpenAcross yX1_isOpenAcross]
def wsX6_leastSlack_r6 : List Cond := [Cond.code yX1_isOpenAcross cX1_isOpenAcross 3 (some .boolean), Cond.methodLink RX1 57 Lib.Math.abs.name, Cond.static Lib.Math.abs.name, Cond.code Lib.Math.abs.name Lib.Math.abs.code 1 (some .int), Cond.methodLink RX1 53 yX1_isShut, Cond.instanceMethod yX1_isShut, Cond.selects RX1 yX1_isShut yX1_isShut, Cond.code yX1_isShut cX1_isShut 2 (some .boolean), Cond.methodLink RX1 49 yX0_get, Cond.methodLink RX5 58 yX5_takeWord, Cond.instanceMethod yX5_takeWord, Cond.selects RX5 yX5_takeWord yX5_takeWord, Cond.code yX5_takeWord cX5_takeWord 2 none, Cond.fieldLink RX5 74 "TideWords$Gates" "held" "LTideWords$Cells;", Cond.fieldLink RX5 78 "TideWords$Gates" "sides" "LTideWords$Cells;", Cond.methodLink RX5 70 yX1_hasWord, Cond.instanceMethod yX1_hasWord, Cond.selects RX1 yX1_hasWord yX1_hasWord, Cond.code yX1_hasWord cX1_hasWord 2 (some .boolean), Cond.methodLink RX5 81 yX0_get, Cond.methodLink RX5 86 yX4_takeWaiting, Cond.instanceMethod yX4_takeWaiting, Cond.selects RX4 yX4_takeWaiting yX4_takeWaiting, Cond.code yX4_takeWaiting cX4_takeWaiting 5 (some .int)]
def wsX6_leastSlack_r7 : List Cond := [Cond.methodLink RX4 49 yX0_get, Cond.methodLink RX4 56 yX4_wordAt, Cond.instanceMethod yX4_wordAt, Cond.selects RX4 yX4_wordAt yX4_wordAt, Cond.code yX4_wordAt cX4_wordAt 3 (some .int), Cond.methodLink RX4 63 yX4_hasPassed, Cond.instanceMethod yX4_hasPassed, Cond.selects RX4 yX4_hasPassed yX4_hasPassed, Cond.code yX4_hasPassed cX4_hasPassed 2 (some .boolean), Cond.methodLink RX4 67 yX4_removeFrom, Cond.instanceMethod yX4_removeFrom, Cond.selects RX4 yX4_removeFrom yX4_removeFrom, Cond.code yX4_removeFrom cX4_removeFrom 6 none, Cond.methodLink RX4 42 yX0_set, Cond.methodLink RX5 89 yX0_set, Cond.methodLink RX5 61 yX5_passLetter, Cond.instanceMethod yX5_passLetter, Cond.selects RX5 yX5_passLetter yX5_passLetter, Cond.code yX5_passLetter cX5_passLetter 3 none, Cond.fieldLink RX5 96 "TideWords$Gates" "lettersDone" "LTideWords$Cells;", Cond.fieldLink RX5 102 "TideWords$Words" "lengths" "LTideWords$Cells;", Cond.fieldLink RX5 108 "TideWords$Gates" "passedWords" "LTideWords$Cells;", Cond.methodLink RX5 99 yX0_add, Cond.instanceMethod yX0_add]
def wsX6_leastSlack_r8 : List Cond := [Cond.selects RX0 yX0_add yX0_add, Cond.code yX0_add cX0_add 3 none, Cond.methodLink RX5 105 yX1_release, Cond.instanceMethod yX1_release, Cond.selects RX1 yX1_release yX1_release, Cond.code yX1_release cX1_release 2 none, Cond.methodLink RX1 45 yX0_set, Cond.methodLink RX5 111 yX4_markPassed, Cond.instanceMethod yX4_markPassed, Cond.selects RX4 yX4_markPassed yX4_markPassed, Cond.code yX4_markPassed cX4_markPassed 4 none, Cond.methodLink RX5 115 yX4_addLast, Cond.instanceMethod yX4_addLast, Cond.selects RX4 yX4_addLast yX4_addLast, Cond.code yX4_addLast cX4_addLast 4 none, Cond.methodLink RX5 64 yX5_sendBack, Cond.instanceMethod yX5_sendBack, Cond.selects RX5 yX5_sendBack yX5_sendBack, Cond.code yX5_sendBack cX5_sendBack 3 none, Cond.fieldLink RX5 118 "TideWords$Gates" "ways" "LTideWords$Cells;", Cond.fieldLink RX5 121 "TideWords$Gates" "vainLetters" "LTideWords$Cells;", Cond.fieldLink RX5 124 "TideWords$Words" "timesBack" "LTideWords$Cells;", Cond.methodLink RX5 127 yX4_addFirst, Cond.instanceMethod yX4_addFirst]
def wsX6_leastSlack_r9 : List Cond := [Cond.selects RX4 yX4_addFirst yX4_addFirst, Cond.code yX4_addFirst cX4_addFirst 6 none, Cond.methodLink RX6 241 yX6_hasGapAhead, Cond.instanceMethod yX6_hasGapAhead, Cond.selects RX6 yX6_hasGapAhead yX6_hasGapAhead, Cond.code yX6_hasGapAhead cX6_hasGapAhead 3 (some .boolean), Cond.methodLink RX6 289 Lib.Math.abs.name]
def wsX6_leastSlack : List Cond := .code yX6_leastSlack cX6_leastSlack 8 (some .int) :: ((wsX6_leastSlack_r1 ++ (wsX6_leastSlack_r2 ++ (wsX6_leastSlack_r3 ++ (wsX6_leastSlack_r4 ++ (wsX6_leastSlack_r5 ++ (wsX6_leastSlack_r6 ++ (wsX6_leastSlack_r7 ++ (wsX6_leastSlack_r8 ++ wsX6_leastSlack_r9)))))))) ++ wsX60 ++ wsX50 ++ wsX40 ++ wsX10 ++ wsX30 ++ wsX00)
def wsX6_openStepsWith : List Cond := .code yX6_openStepsWith cX6_openStepsWith 9 (some .int) :: ([.fieldLink RX6 10 "TideWords" "now" "LTideWords$World;", .fieldLink RX6 56 "TideWords$World" "tides" "LTideWords$Tides;", .fieldLink RX6 74 "TideWords$Tides" "lies" "LTideWords$Cells;", .fieldLink RX6 88 "TideWords$World" "gates" "LTideWords$Gates;", .fieldLink RX6 100 "TideWords$Gates" "slacks" "LTideWords$Cells;", .fieldLink RX6 42 "TideWords" "gapsAhead" "LTideWords$Cells;", .methodLink RX6 289 Lib.Math.abs.name, .static Lib.Math.abs.name, .initialized "java/lang/Math", .code Lib.Math.abs.name Lib.Math.abs.code 1 (some .int), .methodLink RX6 77 yX0_get, .instanceMethod yX0_get, .selects RX0 yX0_get yX0_get, .initialized RX0, .code yX0_get cX0_get 2 (some .int), .fieldLink RX0 13 "TideWords$Cells" "cells" "[I"] ++ wsX60 ++ wsX50 ++ wsX30 ++ wsX10 ++ wsX00)
def wsX6_bestLie_r1 : List Cond := [Cond.methodLink RX6 45 yX6_isStore, Cond.static yX6_isStore, Cond.initialized RX6, Cond.code yX6_isStore cX6_isStore 1 (some .boolean), Cond.methodLink RX6 49 yX6_isWithin, Cond.static yX6_isWithin, Cond.code yX6_isWithin cX6_isWithin 3 (some .boolean), Cond.methodLink RX6 85 yX6_isGate, Cond.static yX6_isGate, Cond.code yX6_isGate cX6_isGate 1 (some .boolean), Cond.methodLink RX6 235 yX6_findGapsAhead, Cond.instanceMethod yX6_findGapsAhead, Cond.selects RX6 yX6_findGapsAhead yX6_findGapsAhead, Cond.code yX6_findGapsAhead cX6_findGapsAhead 2 none, Cond.fieldLink RX6 42 "TideWords" "gapsAhead" "LTideWords$Cells;", Cond.fieldLink RX6 10 "TideWords" "now" "LTideWords$World;", Cond.fieldLink RX6 56 "TideWords$World" "tides" "LTideWords$Tides;", Cond.fieldLink RX6 66 "TideWords$World" "steps" "I", Cond.methodLink RX6 286 yX3_gapAt, Cond.instanceMethod yX3_gapAt, Cond.selects RX3 yX3_gapAt yX3_gapAt, Cond.initialized RX3, Cond.code yX3_gapAt cX3_gapAt 2 (some .int), Cond.methodLink RX3 50 yX3_toldAt]
def wsX6_bestLie_r2 : List Cond := [Cond.instanceMethod yX3_toldAt, Cond.selects RX3 yX3_toldAt yX3_toldAt, Cond.code yX3_toldAt cX3_toldAt 3 (some .int), Cond.fieldLink RX3 26 "TideWords$Tides" "lies" "LTideWords$Cells;", Cond.methodLink RX3 47 yX3_levelAt, Cond.instanceMethod yX3_levelAt, Cond.selects RX3 yX3_levelAt yX3_levelAt, Cond.code yX3_levelAt cX3_levelAt 6 (some .int), Cond.fieldLink RX3 23 "TideWords$Tides" "periods" "LTideWords$Cells;", Cond.fieldLink RX3 14 "TideWords$Tides" "means" "LTideWords$Cells;", Cond.fieldLink RX3 20 "TideWords$Tides" "swings" "LTideWords$Cells;", Cond.methodLink RX3 41 Lib.Math.min.name, Cond.static Lib.Math.min.name, Cond.initialized "java/lang/Math", Cond.code Lib.Math.min.name Lib.Math.min.code 2 (some .int), Cond.methodLink RX3 37 yX0_get, Cond.instanceMethod yX0_get, Cond.selects RX0 yX0_get yX0_get, Cond.initialized RX0, Cond.code yX0_get cX0_get 2 (some .int), Cond.fieldLink RX0 13 "TideWords$Cells" "cells" "[I", Cond.methodLink RX6 81 yX0_set, Cond.instanceMethod yX0_set, Cond.selects RX0 yX0_set yX0_set]
def wsX6_bestLie_r3 : List Cond := [Cond.code yX0_set cX0_set 3 none, Cond.methodLink RX6 244 yX6_openStepsWith, Cond.instanceMethod yX6_openStepsWith, Cond.selects RX6 yX6_openStepsWith yX6_openStepsWith, Cond.code yX6_openStepsWith cX6_openStepsWith 9 (some .int), Cond.fieldLink RX6 74 "TideWords$Tides" "lies" "LTideWords$Cells;", Cond.fieldLink RX6 88 "TideWords$World" "gates" "LTideWords$Gates;", Cond.fieldLink RX6 100 "TideWords$Gates" "slacks" "LTideWords$Cells;", Cond.methodLink RX6 289 Lib.Math.abs.name, Cond.static Lib.Math.abs.name, Cond.code Lib.Math.abs.name Lib.Math.abs.code 1 (some .int), Cond.methodLink RX6 77 yX0_get]
def wsX6_bestLie : List Cond := .code yX6_bestLie cX6_bestLie 8 (some .int) :: ((wsX6_bestLie_r1 ++ (wsX6_bestLie_r2 ++ wsX6_bestLie_r3)) ++ wsX60 ++ wsX50 ++ wsX30 ++ wsX00 ++ wsX10)
def wsX6_codesIn : List Cond := .code yX6_codesIn cX6_codesIn 6 (some .int) :: ([.constantLong RX6 284 (255), .methodLink RX6 49 yX6_isWithin, .static yX6_isWithin, .initialized RX6, .code yX6_isWithin cX6_isWithin 3 (some .boolean)])
def wsX6_codeAt : List Cond := .code yX6_codeAt cX6_codeAt 3 (some .int) :: ([])
def wsX6_write_r1 : List Cond := [Cond.fieldLink RX6 22 "TideWords" "pad" "LTideWords$Pad;", Cond.fieldLink RX6 132 "TideWords$Pad" "length" "I", Cond.methodLink RX6 248 yX6_codesIn, Cond.static yX6_codesIn, Cond.initialized RX6, Cond.code yX6_codesIn cX6_codesIn 6 (some .int), Cond.constantLong RX6 284 (255), Cond.methodLink RX6 49 yX6_isWithin, Cond.static yX6_isWithin, Cond.code yX6_isWithin cX6_isWithin 3 (some .boolean), Cond.methodLink RX6 252 yX6_codeAt, Cond.static yX6_codeAt, Cond.code yX6_codeAt cX6_codeAt 3 (some .int), Cond.methodLink RX6 256 yX2_append, Cond.instanceMethod yX2_append, Cond.selects RX2 yX2_append yX2_append, Cond.initialized RX2, Cond.code yX2_append cX2_append 2 none, Cond.fieldLink RX2 20 "TideWords$Pad" "length" "I", Cond.fieldLink RX2 14 "TideWords$Pad" "codes" "LTideWords$Cells;", Cond.methodLink RX2 24 yX0_set, Cond.instanceMethod yX0_set, Cond.selects RX0 yX0_set yX0_set, Cond.initialized RX0]
def wsX6_write_r2 : List Cond := [Cond.code yX0_set cX0_set 3 none, Cond.fieldLink RX0 13 "TideWords$Cells" "cells" "[I"]
def wsX6_write : List Cond := .code yX6_write cX6_write 5 (some .int) :: ((wsX6_write_r1 ++ wsX6_write_r2) ++ wsX60 ++ wsX20 ++ wsX00)
def wsX6_wipe : List Cond := .code yX6_wipe cX6_wipe 2 (some .int) :: ([.fieldLink RX6 22 "TideWords" "pad" "LTideWords$Pad;", .fieldLink RX6 132 "TideWords$Pad" "length" "I"] ++ wsX60 ++ wsX20)
def wsX6_fault : List Cond := .code yX6_fault cX6_fault 1 (some .int) :: ([.fieldLink RX6 22 "TideWords" "pad" "LTideWords$Pad;", .methodLink RX6 114 yX2_faultPlace, .instanceMethod yX2_faultPlace, .selects RX2 yX2_faultPlace yX2_faultPlace, .initialized RX2, .code yX2_faultPlace cX2_faultPlace 6 (some .int), .fieldLink RX2 20 "TideWords$Pad" "length" "I", .fieldLink RX2 14 "TideWords$Pad" "codes" "LTideWords$Cells;", .methodLink RX2 28 yX0_get, .instanceMethod yX0_get, .selects RX0 yX0_get yX0_get, .initialized RX0, .code yX0_get cX0_get 2 (some .int), .fieldLink RX0 13 "TideWords$Cells" "cells" "[I"] ++ wsX60 ++ wsX20 ++ wsX00)
def wsX6_undo_r1 : List Cond := [Cond.fieldLink RX6 219 "TideWords" "records" "I", Cond.fieldLink RX6 259 "TideWords" "nextRecord" "I", Cond.fieldLink RX6 10 "TideWords" "now" "LTideWords$World;", Cond.fieldLink RX6 26 "TideWords" "history" "[LTideWords$World;", Cond.methodLink RX6 262 yX6_worldIn, Cond.static yX6_worldIn, Cond.initialized RX6, Cond.code yX6_worldIn cX6_worldIn 2 (some (.object "TideWords$World")), Cond.methodLink RX6 228 yX5_copyFrom, Cond.instanceMethod yX5_copyFrom, Cond.selects RX5 yX5_copyFrom yX5_copyFrom, Cond.initialized RX5, Cond.code yX5_copyFrom cX5_copyFrom 2 none, Cond.fieldLink RX5 12 "TideWords$World" "tides" "LTideWords$Tides;", Cond.fieldLink RX5 21 "TideWords$World" "gates" "LTideWords$Gates;", Cond.fieldLink RX5 28 "TideWords$World" "words" "LTideWords$Words;", Cond.fieldLink RX5 40 "TideWords$World" "steps" "I", Cond.fieldLink RX5 93 "TideWords$World" "letters" "I", Cond.fieldLink RX5 67 "TideWords$World" "idleSteps" "I", Cond.methodLink RX5 134 yX3_copyFrom, Cond.instanceMethod yX3_copyFrom, Cond.selects RX3 yX3_copyFrom yX3_copyFrom, Cond.initialized RX3, Cond.code yX3_copyFrom cX3_copyFrom 2 none]
def wsX6_undo_r2 : List Cond := [Cond.fieldLink RX3 14 "TideWords$Tides" "means" "LTideWords$Cells;", Cond.fieldLink RX3 20 "TideWords$Tides" "swings" "LTideWords$Cells;", Cond.fieldLink RX3 23 "TideWords$Tides" "periods" "LTideWords$Cells;", Cond.fieldLink RX3 26 "TideWords$Tides" "lies" "LTideWords$Cells;", Cond.methodLink RX3 53 yX0_copyFrom, Cond.instanceMethod yX0_copyFrom, Cond.selects RX0 yX0_copyFrom yX0_copyFrom, Cond.initialized RX0, Cond.code yX0_copyFrom cX0_copyFrom 2 none, Cond.fieldLink RX0 13 "TideWords$Cells" "cells" "[I", Cond.methodLink RX0 19 Lib.Math.min.name, Cond.static Lib.Math.min.name, Cond.initialized "java/lang/Math", Cond.code Lib.Math.min.name Lib.Math.min.code 2 (some .int), Cond.methodLink RX0 22 arraycopyName, Cond.native arraycopyName, Cond.static arraycopyName, Cond.initialized "java/lang/System", Cond.methodLink RX5 138 yX1_copyFrom, Cond.instanceMethod yX1_copyFrom, Cond.selects RX1 yX1_copyFrom yX1_copyFrom, Cond.initialized RX1, Cond.code yX1_copyFrom cX1_copyFrom 2 none, Cond.fieldLink RX1 14 "TideWords$Gates" "sides" "LTideWords$Cells;"]
def wsX6_undo_r3 : List Cond := [Cond.fieldLink RX1 20 "TideWords$Gates" "slacks" "LTideWords$Cells;", Cond.fieldLink RX1 23 "TideWords$Gates" "ways" "LTideWords$Cells;", Cond.fieldLink RX1 26 "TideWords$Gates" "shuts" "LTideWords$Cells;", Cond.fieldLink RX1 29 "TideWords$Gates" "held" "LTideWords$Cells;", Cond.fieldLink RX1 32 "TideWords$Gates" "lettersDone" "LTideWords$Cells;", Cond.fieldLink RX1 35 "TideWords$Gates" "passedWords" "LTideWords$Cells;", Cond.fieldLink RX1 38 "TideWords$Gates" "vainLetters" "LTideWords$Cells;", Cond.methodLink RX1 65 yX0_copyFrom, Cond.methodLink RX5 141 yX4_copyFrom, Cond.instanceMethod yX4_copyFrom, Cond.selects RX4 yX4_copyFrom yX4_copyFrom, Cond.initialized RX4, Cond.code yX4_copyFrom cX4_copyFrom 2 none, Cond.fieldLink RX4 14 "TideWords$Words" "lengths" "LTideWords$Cells;", Cond.fieldLink RX4 20 "TideWords$Words" "letters" "LTideWords$Cells;", Cond.fieldLink RX4 23 "TideWords$Words" "passedSteps" "LTideWords$Cells;", Cond.fieldLink RX4 26 "TideWords$Words" "passedGates" "LTideWords$Cells;", Cond.fieldLink RX4 29 "TideWords$Words" "timesBack" "LTideWords$Cells;", Cond.fieldLink RX4 32 "TideWords$Words" "rows" "LTideWords$Cells;", Cond.fieldLink RX4 35 "TideWords$Words" "rowLengths" "LTideWords$Cells;", Cond.fieldLink RX4 38 "TideWords$Words" "total" "I", Cond.methodLink RX4 70 yX0_copyFrom]
def wsX6_undo : List Cond := .code yX6_undo cX6_undo 1 (some .int) :: ((wsX6_undo_r1 ++ (wsX6_undo_r2 ++ wsX6_undo_r3)) ++ wsX60 ++ wsX50 ++ wsX30 ++ wsX00 ++ wsX10 ++ wsX40)
def wsX6_save_r1 : List Cond := [Cond.fieldLink RX6 30 "TideWords" "slots" "[LTideWords$World;", Cond.fieldLink RX6 38 "TideWords" "isSaved" "LTideWords$Cells;", Cond.fieldLink RX6 10 "TideWords" "now" "LTideWords$World;", Cond.fieldLink RX6 66 "TideWords$World" "steps" "I", Cond.methodLink RX6 49 yX6_isWithin, Cond.static yX6_isWithin, Cond.initialized RX6, Cond.code yX6_isWithin cX6_isWithin 3 (some .boolean), Cond.methodLink RX6 266 yX6_copyInto, Cond.instanceMethod yX6_copyInto, Cond.selects RX6 yX6_copyInto yX6_copyInto, Cond.code yX6_copyInto cX6_copyInto 4 none, Cond.methodLink RX6 262 yX6_worldIn, Cond.static yX6_worldIn, Cond.code yX6_worldIn cX6_worldIn 2 (some (.object "TideWords$World")), Cond.methodLink RX6 228 yX5_copyFrom, Cond.instanceMethod yX5_copyFrom, Cond.selects RX5 yX5_copyFrom yX5_copyFrom, Cond.initialized RX5, Cond.code yX5_copyFrom cX5_copyFrom 2 none, Cond.fieldLink RX5 12 "TideWords$World" "tides" "LTideWords$Tides;", Cond.fieldLink RX5 21 "TideWords$World" "gates" "LTideWords$Gates;", Cond.fieldLink RX5 28 "TideWords$World" "words" "LTideWords$Words;", Cond.fieldLink RX5 40 "TideWords$World" "steps" "I"]
def wsX6_save_r2 : List Cond := [Cond.fieldLink RX5 93 "TideWords$World" "letters" "I", Cond.fieldLink RX5 67 "TideWords$World" "idleSteps" "I", Cond.methodLink RX5 134 yX3_copyFrom, Cond.instanceMethod yX3_copyFrom, Cond.selects RX3 yX3_copyFrom yX3_copyFrom, Cond.initialized RX3, Cond.code yX3_copyFrom cX3_copyFrom 2 none, Cond.fieldLink RX3 14 "TideWords$Tides" "means" "LTideWords$Cells;", Cond.fieldLink RX3 20 "TideWords$Tides" "swings" "LTideWords$Cells;", Cond.fieldLink RX3 23 "TideWords$Tides" "periods" "LTideWords$Cells;", Cond.fieldLink RX3 26 "TideWords$Tides" "lies" "LTideWords$Cells;", Cond.methodLink RX3 53 yX0_copyFrom, Cond.instanceMethod yX0_copyFrom, Cond.selects RX0 yX0_copyFrom yX0_copyFrom, Cond.initialized RX0, Cond.code yX0_copyFrom cX0_copyFrom 2 none, Cond.fieldLink RX0 13 "TideWords$Cells" "cells" "[I", Cond.methodLink RX0 19 Lib.Math.min.name, Cond.static Lib.Math.min.name, Cond.initialized "java/lang/Math", Cond.code Lib.Math.min.name Lib.Math.min.code 2 (some .int), Cond.methodLink RX0 22 arraycopyName, Cond.native arraycopyName, Cond.static arraycopyName]
def wsX6_save_r3 : List Cond := [Cond.initialized "java/lang/System", Cond.methodLink RX5 138 yX1_copyFrom, Cond.instanceMethod yX1_copyFrom, Cond.selects RX1 yX1_copyFrom yX1_copyFrom, Cond.initialized RX1, Cond.code yX1_copyFrom cX1_copyFrom 2 none, Cond.fieldLink RX1 14 "TideWords$Gates" "sides" "LTideWords$Cells;", Cond.fieldLink RX1 20 "TideWords$Gates" "slacks" "LTideWords$Cells;", Cond.fieldLink RX1 23 "TideWords$Gates" "ways" "LTideWords$Cells;", Cond.fieldLink RX1 26 "TideWords$Gates" "shuts" "LTideWords$Cells;", Cond.fieldLink RX1 29 "TideWords$Gates" "held" "LTideWords$Cells;", Cond.fieldLink RX1 32 "TideWords$Gates" "lettersDone" "LTideWords$Cells;", Cond.fieldLink RX1 35 "TideWords$Gates" "passedWords" "LTideWords$Cells;", Cond.fieldLink RX1 38 "TideWords$Gates" "vainLetters" "LTideWords$Cells;", Cond.methodLink RX1 65 yX0_copyFrom, Cond.methodLink RX5 141 yX4_copyFrom, Cond.instanceMethod yX4_copyFrom, Cond.selects RX4 yX4_copyFrom yX4_copyFrom, Cond.initialized RX4, Cond.code yX4_copyFrom cX4_copyFrom 2 none, Cond.fieldLink RX4 14 "TideWords$Words" "lengths" "LTideWords$Cells;", Cond.fieldLink RX4 20 "TideWords$Words" "letters" "LTideWords$Cells;", Cond.fieldLink RX4 23 "TideWords$Words" "passedSteps" "LTideWords$Cells;", Cond.fieldLink RX4 26 "TideWords$Words" "passedGates" "LTideWords$Cells;"]
def wsX6_save_r4 : List Cond := [Cond.fieldLink RX4 29 "TideWords$Words" "timesBack" "LTideWords$Cells;", Cond.fieldLink RX4 32 "TideWords$Words" "rows" "LTideWords$Cells;", Cond.fieldLink RX4 35 "TideWords$Words" "rowLengths" "LTideWords$Cells;", Cond.fieldLink RX4 38 "TideWords$Words" "total" "I", Cond.methodLink RX4 70 yX0_copyFrom, Cond.methodLink RX6 81 yX0_set, Cond.instanceMethod yX0_set, Cond.selects RX0 yX0_set yX0_set, Cond.code yX0_set cX0_set 3 none]
def wsX6_save : List Cond := .code yX6_save cX6_save 2 (some .int) :: ((wsX6_save_r1 ++ (wsX6_save_r2 ++ (wsX6_save_r3 ++ wsX6_save_r4))) ++ wsX60 ++ wsX50 ++ wsX30 ++ wsX00 ++ wsX10 ++ wsX40)
def wsX6_restore_r1 : List Cond := [Cond.fieldLink RX6 38 "TideWords" "isSaved" "LTideWords$Cells;", Cond.fieldLink RX6 10 "TideWords" "now" "LTideWords$World;", Cond.fieldLink RX6 30 "TideWords" "slots" "[LTideWords$World;", Cond.fieldLink RX6 66 "TideWords$World" "steps" "I", Cond.methodLink RX6 49 yX6_isWithin, Cond.static yX6_isWithin, Cond.initialized RX6, Cond.code yX6_isWithin cX6_isWithin 3 (some .boolean), Cond.methodLink RX6 77 yX0_get, Cond.instanceMethod yX0_get, Cond.selects RX0 yX0_get yX0_get, Cond.initialized RX0, Cond.code yX0_get cX0_get 2 (some .int), Cond.fieldLink RX0 13 "TideWords$Cells" "cells" "[I", Cond.methodLink RX6 53 yX6_record, Cond.instanceMethod yX6_record, Cond.selects RX6 yX6_record yX6_record, Cond.code yX6_record cX6_record 1 none, Cond.fieldLink RX6 26 "TideWords" "history" "[LTideWords$World;", Cond.fieldLink RX6 259 "TideWords" "nextRecord" "I", Cond.fieldLink RX6 219 "TideWords" "records" "I", Cond.methodLink RX6 270 Lib.Math.min.name, Cond.static Lib.Math.min.name, Cond.initialized "java/lang/Math"]
def wsX6_restore_r2 : List Cond := [Cond.code Lib.Math.min.name Lib.Math.min.code 2 (some .int), Cond.methodLink RX6 266 yX6_copyInto, Cond.instanceMethod yX6_copyInto, Cond.selects RX6 yX6_copyInto yX6_copyInto, Cond.code yX6_copyInto cX6_copyInto 4 none, Cond.methodLink RX6 262 yX6_worldIn, Cond.static yX6_worldIn, Cond.code yX6_worldIn cX6_worldIn 2 (some (.object "TideWords$World")), Cond.methodLink RX6 228 yX5_copyFrom, Cond.instanceMethod yX5_copyFrom, Cond.selects RX5 yX5_copyFrom yX5_copyFrom, Cond.initialized RX5, Cond.code yX5_copyFrom cX5_copyFrom 2 none, Cond.fieldLink RX5 12 "TideWords$World" "tides" "LTideWords$Tides;", Cond.fieldLink RX5 21 "TideWords$World" "gates" "LTideWords$Gates;", Cond.fieldLink RX5 28 "TideWords$World" "words" "LTideWords$Words;", Cond.fieldLink RX5 40 "TideWords$World" "steps" "I", Cond.fieldLink RX5 93 "TideWords$World" "letters" "I", Cond.fieldLink RX5 67 "TideWords$World" "idleSteps" "I", Cond.methodLink RX5 134 yX3_copyFrom, Cond.instanceMethod yX3_copyFrom, Cond.selects RX3 yX3_copyFrom yX3_copyFrom, Cond.initialized RX3, Cond.code yX3_copyFrom cX3_copyFrom 2 none]
def wsX6_restore_r3 : List Cond := [Cond.fieldLink RX3 14 "TideWords$Tides" "means" "LTideWords$Cells;", Cond.fieldLink RX3 20 "TideWords$Tides" "swings" "LTideWords$Cells;", Cond.fieldLink RX3 23 "TideWords$Tides" "periods" "LTideWords$Cells;", Cond.fieldLink RX3 26 "TideWords$Tides" "lies" "LTideWords$Cells;", Cond.methodLink RX3 53 yX0_copyFrom, Cond.instanceMethod yX0_copyFrom, Cond.selects RX0 yX0_copyFrom yX0_copyFrom, Cond.code yX0_copyFrom cX0_copyFrom 2 none, Cond.methodLink RX0 19 Lib.Math.min.name, Cond.methodLink RX0 22 arraycopyName, Cond.native arraycopyName, Cond.static arraycopyName, Cond.initialized "java/lang/System", Cond.methodLink RX5 138 yX1_copyFrom, Cond.instanceMethod yX1_copyFrom, Cond.selects RX1 yX1_copyFrom yX1_copyFrom, Cond.initialized RX1, Cond.code yX1_copyFrom cX1_copyFrom 2 none, Cond.fieldLink RX1 14 "TideWords$Gates" "sides" "LTideWords$Cells;", Cond.fieldLink RX1 20 "TideWords$Gates" "slacks" "LTideWords$Cells;", Cond.fieldLink RX1 23 "TideWords$Gates" "ways" "LTideWords$Cells;", Cond.fieldLink RX1 26 "TideWords$Gates" "shuts" "LTideWords$Cells;", Cond.fieldLink RX1 29 "TideWords$Gates" "held" "LTideWords$Cells;", Cond.fieldLink RX1 32 "TideWords$Gates" "lettersDone" "LTideWords$Cells;"]
def wsX6_restore_r4 : List Cond := [Cond.fieldLink RX1 35 "TideWords$Gates" "passedWords" "LTideWords$Cells;", Cond.fieldLink RX1 38 "TideWords$Gates" "vainLetters" "LTideWords$Cells;", Cond.methodLink RX1 65 yX0_copyFrom, Cond.methodLink RX5 141 yX4_copyFrom, Cond.instanceMethod yX4_copyFrom, Cond.selects RX4 yX4_copyFrom yX4_copyFrom, Cond.initialized RX4, Cond.code yX4_copyFrom cX4_copyFrom 2 none, Cond.fieldLink RX4 14 "TideWords$Words" "lengths" "LTideWords$Cells;", Cond.fieldLink RX4 20 "TideWords$Words" "letters" "LTideWords$Cells;", Cond.fieldLink RX4 23 "TideWords$Words" "passedSteps" "LTideWords$Cells;", Cond.fieldLink RX4 26 "TideWords$Words" "passedGates" "LTideWords$Cells;", Cond.fieldLink RX4 29 "TideWords$Words" "timesBack" "LTideWords$Cells;", Cond.fieldLink RX4 32 "TideWords$Words" "rows" "LTideWords$Cells;", Cond.fieldLink RX4 35 "TideWords$Words" "rowLengths" "LTideWords$Cells;", Cond.fieldLink RX4 38 "TideWords$Words" "total" "I", Cond.methodLink RX4 70 yX0_copyFrom]
def wsX6_restore : List Cond := .code yX6_restore cX6_restore 2 (some .int) :: ((wsX6_restore_r1 ++ (wsX6_restore_r2 ++ (wsX6_restore_r3 ++ wsX6_restore_r4))) ++ wsX60 ++ wsX50 ++ wsX00 ++ wsX30 ++ wsX10 ++ wsX40)
def wsX7_ofStore : List Cond := .code yX7_ofStore cX7_ofStore 2 (some .int) :: ([])
def wsX7_ofGate : List Cond := .code yX7_ofGate cX7_ofGate 2 (some .int) :: ([])
def wsX7_init : List Cond := .code yX7_init cX7_init 2 none :: ([.methodLink RX7 1 objectInit, .instanceMethod objectInit, .code objectInit ⟨#[0xb1]⟩ 1 none, .arrayClass .int, .fieldLink RX7 7 "TideWordsModel" "s" "[I", .fieldLink RX7 13 "TideWordsModel" "aside" "[I", .fieldLink RX7 16 "TideWordsModel" "history" "[I", .fieldLink RX7 19 "TideWordsModel" "slots" "[I", .arrayClass .boolean, .fieldLink RX7 22 "TideWordsModel" "isSaved" "[Z", .fieldLink RX7 26 "TideWordsModel" "pad" "[I", .methodLink RX7 29 yX7_ofStore, .static yX7_ofStore, .initialized RX7, .code yX7_ofStore cX7_ofStore 2 (some .int), .methodLink RX7 33 yX7_ofGate, .static yX7_ofGate, .code yX7_ofGate cX7_ofGate 2 (some .int)] ++ wsX70)
def wsX7_in : List Cond := .code yX7_in cX7_in 3 (some .boolean) :: ([])
def wsX7_isStore : List Cond := .code yX7_isStore cX7_isStore 1 (some .boolean) :: ([.methodLink RX7 36 yX7_in, .static yX7_in, .initialized RX7, .code yX7_in cX7_in 3 (some .boolean)])
def wsX7_isGate : List Cond := .code yX7_isGate cX7_isGate 1 (some .boolean) :: ([.methodLink RX7 36 yX7_in, .static yX7_in, .initialized RX7, .code yX7_in cX7_in 3 (some .boolean)])
def wsX7_isWord : List Cond := .code yX7_isWord cX7_isWord 2 (some .boolean) :: ([.fieldLink RX7 7 "TideWordsModel" "s" "[I", .methodLink RX7 36 yX7_in, .static yX7_in, .initialized RX7, .code yX7_in cX7_in 3 (some .boolean)] ++ wsX70)
def wsX7_ofWord : List Cond := .code yX7_ofWord cX7_ofWord 2 (some .int) :: ([])
def wsX7_inRow : List Cond := .code yX7_inRow cX7_inRow 2 (some .int) :: ([])
def wsX7_record : List Cond := .code yX7_record cX7_record 2 none :: ([.fieldLink RX7 40 "TideWordsModel" "kept" "I", .fieldLink RX7 16 "TideWordsModel" "history" "[I", .fieldLink RX7 7 "TideWordsModel" "s" "[I"] ++ wsX70)
def wsX7_putAside : List Cond := .code yX7_putAside cX7_putAside 2 none :: ([.fieldLink RX7 13 "TideWordsModel" "aside" "[I", .fieldLink RX7 7 "TideWordsModel" "s" "[I"] ++ wsX70)
def wsX7_putBack : List Cond := .code yX7_putBack cX7_putBack 2 none :: ([.fieldLink RX7 7 "TideWordsModel" "s" "[I", .fieldLink RX7 13 "TideWordsModel" "aside" "[I"] ++ wsX70)
def wsX7_level : List Cond := .code yX7_level cX7_level 6 (some .int) :: ([.fieldLink RX7 7 "TideWordsModel" "s" "[I", .methodLink RX7 29 yX7_ofStore, .static yX7_ofStore, .initialized RX7, .code yX7_ofStore cX7_ofStore 2 (some .int)] ++ wsX70)
def wsX7_off : List Cond := .code yX7_off cX7_off 4 (some .int) :: ([.fieldLink RX7 7 "TideWordsModel" "s" "[I", .methodLink RX7 44 yX7_level, .instanceMethod yX7_level, .selects RX7 yX7_level yX7_level, .initialized RX7, .code yX7_level cX7_level 6 (some .int), .methodLink RX7 29 yX7_ofStore, .static yX7_ofStore, .code yX7_ofStore cX7_ofStore 2 (some .int)] ++ wsX70)
def wsX7_isOpen : List Cond := .code yX7_isOpen cX7_isOpen 3 (some .boolean) :: ([.fieldLink RX7 7 "TideWordsModel" "s" "[I", .methodLink RX7 33 yX7_ofGate, .static yX7_ofGate, .initialized RX7, .code yX7_ofGate cX7_ofGate 2 (some .int), .methodLink RX7 47 yX7_off, .instanceMethod yX7_off, .selects RX7 yX7_off yX7_off, .code yX7_off cX7_off 4 (some .int), .methodLink RX7 44 yX7_level, .instanceMethod yX7_level, .selects RX7 yX7_level yX7_level, .code yX7_level cX7_level 6 (some .int), .methodLink RX7 29 yX7_ofStore, .static yX7_ofStore, .code yX7_ofStore cX7_ofStore 2 (some .int)] ++ wsX70)
def wsX7_openNow : List Cond := .code yX7_openNow cX7_openNow 3 (some .int) :: ([.fieldLink RX7 7 "TideWordsModel" "s" "[I", .methodLink RX7 51 yX7_isOpen, .instanceMethod yX7_isOpen, .selects RX7 yX7_isOpen yX7_isOpen, .initialized RX7, .code yX7_isOpen cX7_isOpen 3 (some .boolean), .methodLink RX7 33 yX7_ofGate, .static yX7_ofGate, .code yX7_ofGate cX7_ofGate 2 (some .int), .methodLink RX7 47 yX7_off, .instanceMethod yX7_off, .selects RX7 yX7_off yX7_off, .code yX7_off cX7_off 4 (some .int), .methodLink RX7 44 yX7_level, .instanceMethod yX7_level, .selects RX7 yX7_level yX7_level, .code yX7_level cX7_level 6 (some .int), .methodLink RX7 29 yX7_ofStore, .static yX7_ofStore, .code yX7_ofStore cX7_ofStore 2 (some .int)] ++ wsX70)
def wsX7_lettersOf : List Cond := .code yX7_lettersOf cX7_lettersOf 4 (some .int) :: ([.fieldLink RX7 7 "TideWordsModel" "s" "[I", .methodLink RX7 55 yX7_ofWord, .static yX7_ofWord, .initialized RX7, .code yX7_ofWord cX7_ofWord 2 (some .int)] ++ wsX70)
def wsX7_letterOf : List Cond := .code yX7_letterOf cX7_letterOf 5 (some .int) :: ([.fieldLink RX7 7 "TideWordsModel" "s" "[I", .methodLink RX7 55 yX7_ofWord, .static yX7_ofWord, .initialized RX7, .code yX7_ofWord cX7_ofWord 2 (some .int), .methodLink RX7 58 yX7_lettersOf, .instanceMethod yX7_lettersOf, .selects RX7 yX7_lettersOf yX7_lettersOf, .code yX7_lettersOf cX7_lettersOf 4 (some .int), .methodLink RX7 36 yX7_in, .static yX7_in, .code yX7_in cX7_in 3 (some .boolean)] ++ wsX70)
def wsX7_hasPassed : List Cond := .code yX7_hasPassed cX7_hasPassed 2 (some .boolean) :: ([.fieldLink RX7 7 "TideWordsModel" "s" "[I", .methodLink RX7 55 yX7_ofWord, .static yX7_ofWord, .initialized RX7, .code yX7_ofWord cX7_ofWord 2 (some .int)] ++ wsX70)
def wsX7_comes : List Cond := .code yX7_comes cX7_comes 3 none :: ([.fieldLink RX7 7 "TideWordsModel" "s" "[I", .methodLink RX7 61 yX7_inRow, .static yX7_inRow, .initialized RX7, .code yX7_inRow cX7_inRow 2 (some .int)] ++ wsX70)
def wsX7_goesBack : List Cond := .code yX7_goesBack cX7_goesBack 4 none :: ([.fieldLink RX7 7 "TideWordsModel" "s" "[I", .methodLink RX7 61 yX7_inRow, .static yX7_inRow, .initialized RX7, .code yX7_inRow cX7_inRow 2 (some .int)] ++ wsX70)
def wsX7_takes : List Cond := .code yX7_takes cX7_takes 5 (some .int) :: ([.fieldLink RX7 7 "TideWordsModel" "s" "[I", .methodLink RX7 61 yX7_inRow, .static yX7_inRow, .initialized RX7, .code yX7_inRow cX7_inRow 2 (some .int), .methodLink RX7 64 yX7_hasPassed, .instanceMethod yX7_hasPassed, .selects RX7 yX7_hasPassed yX7_hasPassed, .code yX7_hasPassed cX7_hasPassed 2 (some .boolean), .methodLink RX7 55 yX7_ofWord, .static yX7_ofWord, .code yX7_ofWord cX7_ofWord 2 (some .int)] ++ wsX70)
def wsX7_acts_r1 : List Cond := [Cond.fieldLink RX7 7 "TideWordsModel" "s" "[I", Cond.methodLink RX7 51 yX7_isOpen, Cond.instanceMethod yX7_isOpen, Cond.selects RX7 yX7_isOpen yX7_isOpen, Cond.initialized RX7, Cond.code yX7_isOpen cX7_isOpen 3 (some .boolean), Cond.methodLink RX7 33 yX7_ofGate, Cond.static yX7_ofGate, Cond.code yX7_ofGate cX7_ofGate 2 (some .int), Cond.methodLink RX7 47 yX7_off, Cond.instanceMethod yX7_off, Cond.selects RX7 yX7_off yX7_off, Cond.code yX7_off cX7_off 4 (some .int), Cond.methodLink RX7 44 yX7_level, Cond.instanceMethod yX7_level, Cond.selects RX7 yX7_level yX7_level, Cond.code yX7_level cX7_level 6 (some .int), Cond.methodLink RX7 29 yX7_ofStore, Cond.static yX7_ofStore, Cond.code yX7_ofStore cX7_ofStore 2 (some .int), Cond.methodLink RX7 68 yX7_takes, Cond.instanceMethod yX7_takes, Cond.selects RX7 yX7_takes yX7_takes, Cond.code yX7_takes cX7_takes 5 (some .int)]
def wsX7_acts_r2 : List Cond := [Cond.methodLink RX7 61 yX7_inRow, Cond.static yX7_inRow, Cond.code yX7_inRow cX7_inRow 2 (some .int), Cond.methodLink RX7 64 yX7_hasPassed, Cond.instanceMethod yX7_hasPassed, Cond.selects RX7 yX7_hasPassed yX7_hasPassed, Cond.code yX7_hasPassed cX7_hasPassed 2 (some .boolean), Cond.methodLink RX7 55 yX7_ofWord, Cond.static yX7_ofWord, Cond.code yX7_ofWord cX7_ofWord 2 (some .int), Cond.methodLink RX7 58 yX7_lettersOf, Cond.instanceMethod yX7_lettersOf, Cond.selects RX7 yX7_lettersOf yX7_lettersOf, Cond.code yX7_lettersOf cX7_lettersOf 4 (some .int), Cond.methodLink RX7 71 yX7_comes, Cond.instanceMethod yX7_comes, Cond.selects RX7 yX7_comes yX7_comes, Cond.code yX7_comes cX7_comes 3 none, Cond.methodLink RX7 75 yX7_goesBack, Cond.instanceMethod yX7_goesBack, Cond.selects RX7 yX7_goesBack yX7_goesBack, Cond.code yX7_goesBack cX7_goesBack 4 none]
def wsX7_acts : List Cond := .code yX7_acts cX7_acts 5 none :: ((wsX7_acts_r1 ++ wsX7_acts_r2) ++ wsX70)
def wsX7_step_r1 : List Cond := [Cond.fieldLink RX7 7 "TideWordsModel" "s" "[I", Cond.methodLink RX7 78 yX7_openNow, Cond.instanceMethod yX7_openNow, Cond.selects RX7 yX7_openNow yX7_openNow, Cond.initialized RX7, Cond.code yX7_openNow cX7_openNow 3 (some .int), Cond.methodLink RX7 51 yX7_isOpen, Cond.instanceMethod yX7_isOpen, Cond.selects RX7 yX7_isOpen yX7_isOpen, Cond.code yX7_isOpen cX7_isOpen 3 (some .boolean), Cond.methodLink RX7 33 yX7_ofGate, Cond.static yX7_ofGate, Cond.code yX7_ofGate cX7_ofGate 2 (some .int), Cond.methodLink RX7 47 yX7_off, Cond.instanceMethod yX7_off, Cond.selects RX7 yX7_off yX7_off, Cond.code yX7_off cX7_off 4 (some .int), Cond.methodLink RX7 44 yX7_level, Cond.instanceMethod yX7_level, Cond.selects RX7 yX7_level yX7_level, Cond.code yX7_level cX7_level 6 (some .int), Cond.methodLink RX7 29 yX7_ofStore, Cond.static yX7_ofStore, Cond.code yX7_ofStore cX7_ofStore 2 (some .int)]
def wsX7_step_r2 : List Cond := [Cond.methodLink RX7 82 yX7_acts, Cond.instanceMethod yX7_acts, Cond.selects RX7 yX7_acts yX7_acts, Cond.code yX7_acts cX7_acts 5 none, Cond.methodLink RX7 68 yX7_takes, Cond.instanceMethod yX7_takes, Cond.selects RX7 yX7_takes yX7_takes, Cond.code yX7_takes cX7_takes 5 (some .int), Cond.methodLink RX7 61 yX7_inRow, Cond.static yX7_inRow, Cond.code yX7_inRow cX7_inRow 2 (some .int), Cond.methodLink RX7 64 yX7_hasPassed, Cond.instanceMethod yX7_hasPassed, Cond.selects RX7 yX7_hasPassed yX7_hasPassed, Cond.code yX7_hasPassed cX7_hasPassed 2 (some .boolean), Cond.methodLink RX7 55 yX7_ofWord, Cond.static yX7_ofWord, Cond.code yX7_ofWord cX7_ofWord 2 (some .int), Cond.methodLink RX7 58 yX7_lettersOf, Cond.instanceMethod yX7_lettersOf, Cond.selects RX7 yX7_lettersOf yX7_lettersOf, Cond.code yX7_lettersOf cX7_lettersOf 4 (some .int), Cond.methodLink RX7 71 yX7_comes, Cond.instanceMethod yX7_comes]
def wsX7_step_r3 : List Cond := [Cond.selects RX7 yX7_comes yX7_comes, Cond.code yX7_comes cX7_comes 3 none, Cond.methodLink RX7 75 yX7_goesBack, Cond.instanceMethod yX7_goesBack, Cond.selects RX7 yX7_goesBack yX7_goesBack, Cond.code yX7_goesBack cX7_goesBack 4 none]
def wsX7_step : List Cond := .code yX7_step cX7_step 2 none :: ((wsX7_step_r1 ++ (wsX7_step_r2 ++ wsX7_step_r3)) ++ wsX70)
def wsX7_runs_r1 : List Cond := [Cond.methodLink RX7 86 yX7_step, Cond.instanceMethod yX7_step, Cond.selects RX7 yX7_step yX7_step, Cond.initialized RX7, Cond.code yX7_step cX7_step 2 none, Cond.fieldLink RX7 7 "TideWordsModel" "s" "[I", Cond.methodLink RX7 78 yX7_openNow, Cond.instanceMethod yX7_openNow, Cond.selects RX7 yX7_openNow yX7_openNow, Cond.code yX7_openNow cX7_openNow 3 (some .int), Cond.methodLink RX7 51 yX7_isOpen, Cond.instanceMethod yX7_isOpen, Cond.selects RX7 yX7_isOpen yX7_isOpen, Cond.code yX7_isOpen cX7_isOpen 3 (some .boolean), Cond.methodLink RX7 33 yX7_ofGate, Cond.static yX7_ofGate, Cond.code yX7_ofGate cX7_ofGate 2 (some .int), Cond.methodLink RX7 47 yX7_off, Cond.instanceMethod yX7_off, Cond.selects RX7 yX7_off yX7_off, Cond.code yX7_off cX7_off 4 (some .int), Cond.methodLink RX7 44 yX7_level, Cond.instanceMethod yX7_level, Cond.selects RX7 yX7_level yX7_level]
def wsX7_runs_r2 : List Cond := [Cond.code yX7_level cX7_level 6 (some .int), Cond.methodLink RX7 29 yX7_ofStore, Cond.static yX7_ofStore, Cond.code yX7_ofStore cX7_ofStore 2 (some .int), Cond.methodLink RX7 82 yX7_acts, Cond.instanceMethod yX7_acts, Cond.selects RX7 yX7_acts yX7_acts, Cond.code yX7_acts cX7_acts 5 none, Cond.methodLink RX7 68 yX7_takes, Cond.instanceMethod yX7_takes, Cond.selects RX7 yX7_takes yX7_takes, Cond.code yX7_takes cX7_takes 5 (some .int), Cond.methodLink RX7 61 yX7_inRow, Cond.static yX7_inRow, Cond.code yX7_inRow cX7_inRow 2 (some .int), Cond.methodLink RX7 64 yX7_hasPassed, Cond.instanceMethod yX7_hasPassed, Cond.selects RX7 yX7_hasPassed yX7_hasPassed, Cond.code yX7_hasPassed cX7_hasPassed 2 (some .boolean), Cond.methodLink RX7 55 yX7_ofWord, Cond.static yX7_ofWord, Cond.code yX7_ofWord cX7_ofWord 2 (some .int), Cond.methodLink RX7 58 yX7_lettersOf, Cond.instanceMethod yX7_lettersOf]
def wsX7_runs_r3 : List Cond := [Cond.selects RX7 yX7_lettersOf yX7_lettersOf, Cond.code yX7_lettersOf cX7_lettersOf 4 (some .int), Cond.methodLink RX7 71 yX7_comes, Cond.instanceMethod yX7_comes, Cond.selects RX7 yX7_comes yX7_comes, Cond.code yX7_comes cX7_comes 3 none, Cond.methodLink RX7 75 yX7_goesBack, Cond.instanceMethod yX7_goesBack, Cond.selects RX7 yX7_goesBack yX7_goesBack, Cond.code yX7_goesBack cX7_goesBack 4 none]
def wsX7_runs : List Cond := .code yX7_runs cX7_runs 3 none :: ((wsX7_runs_r1 ++ (wsX7_runs_r2 ++ wsX7_runs_r3)) ++ wsX70)
def wsX7_passedWords : List Cond := .code yX7_passedWords cX7_passedWords 3 (some .int) :: ([.fieldLink RX7 7 "TideWordsModel" "s" "[I", .methodLink RX7 55 yX7_ofWord, .static yX7_ofWord, .initialized RX7, .code yX7_ofWord cX7_ofWord 2 (some .int)] ++ wsX70)
def wsX7_backs : List Cond := .code yX7_backs cX7_backs 3 (some .int) :: ([.fieldLink RX7 7 "TideWordsModel" "s" "[I", .methodLink RX7 55 yX7_ofWord, .static yX7_ofWord, .initialized RX7, .code yX7_ofWord cX7_ofWord 2 (some .int)] ++ wsX70)
def wsX7_tide : List Cond := .code yX7_tide cX7_tide 5 (some .int) :: ([.fieldLink RX7 7 "TideWordsModel" "s" "[I", .methodLink RX7 89 yX7_isStore, .static yX7_isStore, .initialized RX7, .code yX7_isStore cX7_isStore 1 (some .boolean), .methodLink RX7 36 yX7_in, .static yX7_in, .code yX7_in cX7_in 3 (some .boolean), .methodLink RX7 92 yX7_record, .instanceMethod yX7_record, .selects RX7 yX7_record yX7_record, .code yX7_record cX7_record 2 none, .fieldLink RX7 40 "TideWordsModel" "kept" "I", .fieldLink RX7 16 "TideWordsModel" "history" "[I", .methodLink RX7 29 yX7_ofStore, .static yX7_ofStore, .code yX7_ofStore cX7_ofStore 2 (some .int), .methodLink RX7 44 yX7_level, .instanceMethod yX7_level, .selects RX7 yX7_level yX7_level, .code yX7_level cX7_level 6 (some .int)] ++ wsX70)
def wsX7_lays : List Cond := .code yX7_lays cX7_lays 4 (some .int) :: ([.fieldLink RX7 7 "TideWordsModel" "s" "[I", .methodLink RX7 92 yX7_record, .instanceMethod yX7_record, .selects RX7 yX7_record yX7_record, .initialized RX7, .code yX7_record cX7_record 2 none, .fieldLink RX7 40 "TideWordsModel" "kept" "I", .fieldLink RX7 16 "TideWordsModel" "history" "[I"] ++ wsX70)
def wsX7_gauge : List Cond := .code yX7_gauge cX7_gauge 3 (some .int) :: ([.methodLink RX7 89 yX7_isStore, .static yX7_isStore, .initialized RX7, .code yX7_isStore cX7_isStore 1 (some .boolean), .methodLink RX7 36 yX7_in, .static yX7_in, .code yX7_in cX7_in 3 (some .boolean), .methodLink RX7 29 yX7_ofStore, .static yX7_ofStore, .code yX7_ofStore cX7_ofStore 2 (some .int), .methodLink RX7 95 yX7_lays, .instanceMethod yX7_lays, .selects RX7 yX7_lays yX7_lays, .code yX7_lays cX7_lays 4 (some .int), .fieldLink RX7 7 "TideWordsModel" "s" "[I", .methodLink RX7 92 yX7_record, .instanceMethod yX7_record, .selects RX7 yX7_record yX7_record, .code yX7_record cX7_record 2 none, .fieldLink RX7 40 "TideWordsModel" "kept" "I", .fieldLink RX7 16 "TideWordsModel" "history" "[I"] ++ wsX70)
def wsX7_gate : List Cond := .code yX7_gate cX7_gate 6 (some .int) :: ([.fieldLink RX7 7 "TideWordsModel" "s" "[I", .methodLink RX7 98 yX7_isGate, .static yX7_isGate, .initialized RX7, .code yX7_isGate cX7_isGate 1 (some .boolean), .methodLink RX7 36 yX7_in, .static yX7_in, .code yX7_in cX7_in 3 (some .boolean), .methodLink RX7 33 yX7_ofGate, .static yX7_ofGate, .code yX7_ofGate cX7_ofGate 2 (some .int), .methodLink RX7 95 yX7_lays, .instanceMethod yX7_lays, .selects RX7 yX7_lays yX7_lays, .code yX7_lays cX7_lays 4 (some .int), .methodLink RX7 92 yX7_record, .instanceMethod yX7_record, .selects RX7 yX7_record yX7_record, .code yX7_record cX7_record 2 none, .fieldLink RX7 40 "TideWordsModel" "kept" "I", .fieldLink RX7 16 "TideWordsModel" "history" "[I"] ++ wsX70)
def wsX7_shut : List Cond := .code yX7_shut cX7_shut 4 (some .int) :: ([.fieldLink RX7 7 "TideWordsModel" "s" "[I", .methodLink RX7 98 yX7_isGate, .static yX7_isGate, .initialized RX7, .code yX7_isGate cX7_isGate 1 (some .boolean), .methodLink RX7 36 yX7_in, .static yX7_in, .code yX7_in cX7_in 3 (some .boolean), .methodLink RX7 33 yX7_ofGate, .static yX7_ofGate, .code yX7_ofGate cX7_ofGate 2 (some .int), .methodLink RX7 95 yX7_lays, .instanceMethod yX7_lays, .selects RX7 yX7_lays yX7_lays, .code yX7_lays cX7_lays 4 (some .int), .methodLink RX7 92 yX7_record, .instanceMethod yX7_record, .selects RX7 yX7_record yX7_record, .code yX7_record cX7_record 2 none, .fieldLink RX7 40 "TideWordsModel" "kept" "I", .fieldLink RX7 16 "TideWordsModel" "history" "[I"] ++ wsX70)
def wsX7_run_r1 : List Cond := [Cond.fieldLink RX7 7 "TideWordsModel" "s" "[I", Cond.constant RX7 101 (99999), Cond.methodLink RX7 36 yX7_in, Cond.static yX7_in, Cond.initialized RX7, Cond.code yX7_in cX7_in 3 (some .boolean), Cond.methodLink RX7 92 yX7_record, Cond.instanceMethod yX7_record, Cond.selects RX7 yX7_record yX7_record, Cond.code yX7_record cX7_record 2 none, Cond.fieldLink RX7 40 "TideWordsModel" "kept" "I", Cond.fieldLink RX7 16 "TideWordsModel" "history" "[I", Cond.methodLink RX7 102 yX7_passedWords, Cond.instanceMethod yX7_passedWords, Cond.selects RX7 yX7_passedWords yX7_passedWords, Cond.code yX7_passedWords cX7_passedWords 3 (some .int), Cond.methodLink RX7 55 yX7_ofWord, Cond.static yX7_ofWord, Cond.code yX7_ofWord cX7_ofWord 2 (some .int), Cond.methodLink RX7 105 yX7_runs, Cond.instanceMethod yX7_runs, Cond.selects RX7 yX7_runs yX7_runs, Cond.code yX7_runs cX7_runs 3 none, Cond.methodLink RX7 86 yX7_step]
def wsX7_run_r2 : List Cond := [Cond.instanceMethod yX7_step, Cond.selects RX7 yX7_step yX7_step, Cond.code yX7_step cX7_step 2 none, Cond.methodLink RX7 78 yX7_openNow, Cond.instanceMethod yX7_openNow, Cond.selects RX7 yX7_openNow yX7_openNow, Cond.code yX7_openNow cX7_openNow 3 (some .int), Cond.methodLink RX7 51 yX7_isOpen, Cond.instanceMethod yX7_isOpen, Cond.selects RX7 yX7_isOpen yX7_isOpen, Cond.code yX7_isOpen cX7_isOpen 3 (some .boolean), Cond.methodLink RX7 33 yX7_ofGate, Cond.static yX7_ofGate, Cond.code yX7_ofGate cX7_ofGate 2 (some .int), Cond.methodLink RX7 47 yX7_off, Cond.instanceMethod yX7_off, Cond.selects RX7 yX7_off yX7_off, Cond.code yX7_off cX7_off 4 (some .int), Cond.methodLink RX7 44 yX7_level, Cond.instanceMethod yX7_level, Cond.selects RX7 yX7_level yX7_level, Cond.code yX7_level cX7_level 6 (some .int), Cond.methodLink RX7 29 yX7_ofStore, Cond.static yX7_ofStore]
def wsX7_run_r3 : List Cond := [Cond.code yX7_ofStore cX7_ofStore 2 (some .int), Cond.methodLink RX7 82 yX7_acts, Cond.instanceMethod yX7_acts, Cond.selects RX7 yX7_acts yX7_acts, Cond.code yX7_acts cX7_acts 5 none, Cond.methodLink RX7 68 yX7_takes, Cond.instanceMethod yX7_takes, Cond.selects RX7 yX7_takes yX7_takes, Cond.code yX7_takes cX7_takes 5 (some .int), Cond.methodLink RX7 61 yX7_inRow, Cond.static yX7_inRow, Cond.code yX7_inRow cX7_inRow 2 (some .int), Cond.methodLink RX7 64 yX7_hasPassed, Cond.instanceMethod yX7_hasPassed, Cond.selects RX7 yX7_hasPassed yX7_hasPassed, Cond.code yX7_hasPassed cX7_hasPassed 2 (some .boolean), Cond.methodLink RX7 58 yX7_lettersOf, Cond.instanceMethod yX7_lettersOf, Cond.selects RX7 yX7_lettersOf yX7_lettersOf, Cond.code yX7_lettersOf cX7_lettersOf 4 (some .int), Cond.methodLink RX7 71 yX7_comes, Cond.instanceMethod yX7_comes, Cond.selects RX7 yX7_comes yX7_comes, Cond.code yX7_comes cX7_comes 3 none]
def wsX7_run_r4 : List Cond := [Cond.methodLink RX7 75 yX7_goesBack, Cond.instanceMethod yX7_goesBack, Cond.selects RX7 yX7_goesBack yX7_goesBack, Cond.code yX7_goesBack cX7_goesBack 4 none]
def wsX7_run : List Cond := .code yX7_run cX7_run 3 (some .int) :: ((wsX7_run_r1 ++ (wsX7_run_r2 ++ (wsX7_run_r3 ++ wsX7_run_r4))) ++ wsX70)
def wsX7_sumOf : List Cond := .code yX7_sumOf cX7_sumOf 6 (some .int) :: ([.fieldLink RX7 7 "TideWordsModel" "s" "[I", .methodLink RX7 61 yX7_inRow, .static yX7_inRow, .initialized RX7, .code yX7_inRow cX7_inRow 2 (some .int), .methodLink RX7 58 yX7_lettersOf, .instanceMethod yX7_lettersOf, .selects RX7 yX7_lettersOf yX7_lettersOf, .code yX7_lettersOf cX7_lettersOf 4 (some .int), .methodLink RX7 55 yX7_ofWord, .static yX7_ofWord, .code yX7_ofWord cX7_ofWord 2 (some .int), .methodLink RX7 64 yX7_hasPassed, .instanceMethod yX7_hasPassed, .selects RX7 yX7_hasPassed yX7_hasPassed, .code yX7_hasPassed cX7_hasPassed 2 (some .boolean)] ++ wsX70)
def wsX7_store_r1 : List Cond := [Cond.fieldLink RX7 7 "TideWordsModel" "s" "[I", Cond.methodLink RX7 89 yX7_isStore, Cond.static yX7_isStore, Cond.initialized RX7, Cond.code yX7_isStore cX7_isStore 1 (some .boolean), Cond.methodLink RX7 36 yX7_in, Cond.static yX7_in, Cond.code yX7_in cX7_in 3 (some .boolean), Cond.methodLink RX7 29 yX7_ofStore, Cond.static yX7_ofStore, Cond.code yX7_ofStore cX7_ofStore 2 (some .int), Cond.methodLink RX7 44 yX7_level, Cond.instanceMethod yX7_level, Cond.selects RX7 yX7_level yX7_level, Cond.code yX7_level cX7_level 6 (some .int), Cond.methodLink RX7 108 yX7_sumOf, Cond.instanceMethod yX7_sumOf, Cond.selects RX7 yX7_sumOf yX7_sumOf, Cond.code yX7_sumOf cX7_sumOf 6 (some .int), Cond.methodLink RX7 61 yX7_inRow, Cond.static yX7_inRow, Cond.code yX7_inRow cX7_inRow 2 (some .int), Cond.methodLink RX7 58 yX7_lettersOf, Cond.instanceMethod yX7_lettersOf]
def wsX7_store_r2 : List Cond := [Cond.selects RX7 yX7_lettersOf yX7_lettersOf, Cond.code yX7_lettersOf cX7_lettersOf 4 (some .int), Cond.methodLink RX7 55 yX7_ofWord, Cond.static yX7_ofWord, Cond.code yX7_ofWord cX7_ofWord 2 (some .int), Cond.methodLink RX7 64 yX7_hasPassed, Cond.instanceMethod yX7_hasPassed, Cond.selects RX7 yX7_hasPassed yX7_hasPassed, Cond.code yX7_hasPassed cX7_hasPassed 2 (some .boolean)]
def wsX7_store : List Cond := .code yX7_store cX7_store 3 (some .int) :: ((wsX7_store_r1 ++ wsX7_store_r2) ++ wsX70)
def wsX7_gateOf_r1 : List Cond := [Cond.fieldLink RX7 7 "TideWordsModel" "s" "[I", Cond.methodLink RX7 98 yX7_isGate, Cond.static yX7_isGate, Cond.initialized RX7, Cond.code yX7_isGate cX7_isGate 1 (some .boolean), Cond.methodLink RX7 36 yX7_in, Cond.static yX7_in, Cond.code yX7_in cX7_in 3 (some .boolean), Cond.methodLink RX7 51 yX7_isOpen, Cond.instanceMethod yX7_isOpen, Cond.selects RX7 yX7_isOpen yX7_isOpen, Cond.code yX7_isOpen cX7_isOpen 3 (some .boolean), Cond.methodLink RX7 33 yX7_ofGate, Cond.static yX7_ofGate, Cond.code yX7_ofGate cX7_ofGate 2 (some .int), Cond.methodLink RX7 47 yX7_off, Cond.instanceMethod yX7_off, Cond.selects RX7 yX7_off yX7_off, Cond.code yX7_off cX7_off 4 (some .int), Cond.methodLink RX7 44 yX7_level, Cond.instanceMethod yX7_level, Cond.selects RX7 yX7_level yX7_level, Cond.code yX7_level cX7_level 6 (some .int), Cond.methodLink RX7 29 yX7_ofStore]
def wsX7_gateOf_r2 : List Cond := [Cond.static yX7_ofStore, Cond.code yX7_ofStore cX7_ofStore 2 (some .int)]
def wsX7_gateOf : List Cond := .code yX7_gateOf cX7_gateOf 3 (some .int) :: ((wsX7_gateOf_r1 ++ wsX7_gateOf_r2) ++ wsX70)
def wsX7_whereIs : List Cond := .code yX7_whereIs cX7_whereIs 4 (some .int) :: ([.fieldLink RX7 7 "TideWordsModel" "s" "[I", .methodLink RX7 61 yX7_inRow, .static yX7_inRow, .initialized RX7, .code yX7_inRow cX7_inRow 2 (some .int), .methodLink RX7 33 yX7_ofGate, .static yX7_ofGate, .code yX7_ofGate cX7_ofGate 2 (some .int)] ++ wsX70)
def wsX7_word_r1 : List Cond := [Cond.fieldLink RX7 7 "TideWordsModel" "s" "[I", Cond.methodLink RX7 111 yX7_isWord, Cond.instanceMethod yX7_isWord, Cond.selects RX7 yX7_isWord yX7_isWord, Cond.initialized RX7, Cond.code yX7_isWord cX7_isWord 2 (some .boolean), Cond.methodLink RX7 36 yX7_in, Cond.static yX7_in, Cond.code yX7_in cX7_in 3 (some .boolean), Cond.methodLink RX7 114 yX7_whereIs, Cond.instanceMethod yX7_whereIs, Cond.selects RX7 yX7_whereIs yX7_whereIs, Cond.code yX7_whereIs cX7_whereIs 4 (some .int), Cond.methodLink RX7 61 yX7_inRow, Cond.static yX7_inRow, Cond.code yX7_inRow cX7_inRow 2 (some .int), Cond.methodLink RX7 33 yX7_ofGate, Cond.static yX7_ofGate, Cond.code yX7_ofGate cX7_ofGate 2 (some .int), Cond.methodLink RX7 58 yX7_lettersOf, Cond.instanceMethod yX7_lettersOf, Cond.selects RX7 yX7_lettersOf yX7_lettersOf, Cond.code yX7_lettersOf cX7_lettersOf 4 (some .int), Cond.methodLink RX7 55 yX7_ofWord]
def wsX7_word_r2 : List Cond := [Cond.static yX7_ofWord, Cond.code yX7_ofWord cX7_ofWord 2 (some .int), Cond.methodLink RX7 117 yX7_letterOf, Cond.instanceMethod yX7_letterOf, Cond.selects RX7 yX7_letterOf yX7_letterOf, Cond.code yX7_letterOf cX7_letterOf 5 (some .int)]
def wsX7_word : List Cond := .code yX7_word cX7_word 3 (some .int) :: ((wsX7_word_r1 ++ wsX7_word_r2) ++ wsX70)
def wsX7_at : List Cond := .code yX7_at cX7_at 3 (some .int) :: ([.fieldLink RX7 7 "TideWordsModel" "s" "[I", .methodLink RX7 89 yX7_isStore, .static yX7_isStore, .initialized RX7, .code yX7_isStore cX7_isStore 1 (some .boolean), .methodLink RX7 36 yX7_in, .static yX7_in, .code yX7_in cX7_in 3 (some .boolean), .methodLink RX7 61 yX7_inRow, .static yX7_inRow, .code yX7_inRow cX7_inRow 2 (some .int)] ++ wsX70)
def wsX7_inGates : List Cond := .code yX7_inGates cX7_inGates 3 (some .int) :: ([.fieldLink RX7 7 "TideWordsModel" "s" "[I", .methodLink RX7 33 yX7_ofGate, .static yX7_ofGate, .initialized RX7, .code yX7_ofGate cX7_ofGate 2 (some .int)] ++ wsX70)
def wsX7_count_r1 : List Cond := [Cond.fieldLink RX7 7 "TideWordsModel" "s" "[I", Cond.fieldLink RX7 123 "TideWordsModel" "length" "I", Cond.fieldLink RX7 40 "TideWordsModel" "kept" "I", Cond.methodLink RX7 102 yX7_passedWords, Cond.instanceMethod yX7_passedWords, Cond.selects RX7 yX7_passedWords yX7_passedWords, Cond.initialized RX7, Cond.code yX7_passedWords cX7_passedWords 3 (some .int), Cond.methodLink RX7 55 yX7_ofWord, Cond.static yX7_ofWord, Cond.code yX7_ofWord cX7_ofWord 2 (some .int), Cond.methodLink RX7 120 yX7_inGates, Cond.instanceMethod yX7_inGates, Cond.selects RX7 yX7_inGates yX7_inGates, Cond.code yX7_inGates cX7_inGates 3 (some .int), Cond.methodLink RX7 33 yX7_ofGate, Cond.static yX7_ofGate, Cond.code yX7_ofGate cX7_ofGate 2 (some .int), Cond.methodLink RX7 78 yX7_openNow, Cond.instanceMethod yX7_openNow, Cond.selects RX7 yX7_openNow yX7_openNow, Cond.code yX7_openNow cX7_openNow 3 (some .int), Cond.methodLink RX7 51 yX7_isOpen, Cond.instanceMethod yX7_isOpen]
def wsX7_count_r2 : List Cond := [Cond.selects RX7 yX7_isOpen yX7_isOpen, Cond.code yX7_isOpen cX7_isOpen 3 (some .boolean), Cond.methodLink RX7 47 yX7_off, Cond.instanceMethod yX7_off, Cond.selects RX7 yX7_off yX7_off, Cond.code yX7_off cX7_off 4 (some .int), Cond.methodLink RX7 44 yX7_level, Cond.instanceMethod yX7_level, Cond.selects RX7 yX7_level yX7_level, Cond.code yX7_level cX7_level 6 (some .int), Cond.methodLink RX7 29 yX7_ofStore, Cond.static yX7_ofStore, Cond.code yX7_ofStore cX7_ofStore 2 (some .int)]
def wsX7_count : List Cond := .code yX7_count cX7_count 2 (some .int) :: ((wsX7_count_r1 ++ wsX7_count_r2) ++ wsX70)
def wsX7_opensIn : List Cond := .code yX7_opensIn cX7_opensIn 3 (some .int) :: ([.fieldLink RX7 7 "TideWordsModel" "s" "[I", .methodLink RX7 51 yX7_isOpen, .instanceMethod yX7_isOpen, .selects RX7 yX7_isOpen yX7_isOpen, .initialized RX7, .code yX7_isOpen cX7_isOpen 3 (some .boolean), .methodLink RX7 33 yX7_ofGate, .static yX7_ofGate, .code yX7_ofGate cX7_ofGate 2 (some .int), .methodLink RX7 47 yX7_off, .instanceMethod yX7_off, .selects RX7 yX7_off yX7_off, .code yX7_off cX7_off 4 (some .int), .methodLink RX7 44 yX7_level, .instanceMethod yX7_level, .selects RX7 yX7_level yX7_level, .code yX7_level cX7_level 6 (some .int), .methodLink RX7 29 yX7_ofStore, .static yX7_ofStore, .code yX7_ofStore cX7_ofStore 2 (some .int)] ++ wsX70)
def wsX7_untilOpen_r1 : List Cond := [Cond.methodLink RX7 98 yX7_isGate, Cond.static yX7_isGate, Cond.initialized RX7, Cond.code yX7_isGate cX7_isGate 1 (some .boolean), Cond.methodLink RX7 36 yX7_in, Cond.static yX7_in, Cond.code yX7_in cX7_in 3 (some .boolean), Cond.methodLink RX7 126 yX7_opensIn, Cond.instanceMethod yX7_opensIn, Cond.selects RX7 yX7_opensIn yX7_opensIn, Cond.code yX7_opensIn cX7_opensIn 3 (some .int), Cond.fieldLink RX7 7 "TideWordsModel" "s" "[I", Cond.methodLink RX7 51 yX7_isOpen, Cond.instanceMethod yX7_isOpen, Cond.selects RX7 yX7_isOpen yX7_isOpen, Cond.code yX7_isOpen cX7_isOpen 3 (some .boolean), Cond.methodLink RX7 33 yX7_ofGate, Cond.static yX7_ofGate, Cond.code yX7_ofGate cX7_ofGate 2 (some .int), Cond.methodLink RX7 47 yX7_off, Cond.instanceMethod yX7_off, Cond.selects RX7 yX7_off yX7_off, Cond.code yX7_off cX7_off 4 (some .int), Cond.methodLink RX7 44 yX7_level]
def wsX7_untilOpen_r2 : List Cond := [Cond.instanceMethod yX7_level, Cond.selects RX7 yX7_level yX7_level, Cond.code yX7_level cX7_level 6 (some .int), Cond.methodLink RX7 29 yX7_ofStore, Cond.static yX7_ofStore, Cond.code yX7_ofStore cX7_ofStore 2 (some .int)]
def wsX7_untilOpen : List Cond := .code yX7_untilOpen cX7_untilOpen 2 (some .int) :: ((wsX7_untilOpen_r1 ++ wsX7_untilOpen_r2) ++ wsX70)
def wsX7_openFor_r1 : List Cond := [Cond.fieldLink RX7 7 "TideWordsModel" "s" "[I", Cond.methodLink RX7 98 yX7_isGate, Cond.static yX7_isGate, Cond.initialized RX7, Cond.code yX7_isGate cX7_isGate 1 (some .boolean), Cond.methodLink RX7 36 yX7_in, Cond.static yX7_in, Cond.code yX7_in cX7_in 3 (some .boolean), Cond.methodLink RX7 126 yX7_opensIn, Cond.instanceMethod yX7_opensIn, Cond.selects RX7 yX7_opensIn yX7_opensIn, Cond.code yX7_opensIn cX7_opensIn 3 (some .int), Cond.methodLink RX7 51 yX7_isOpen, Cond.instanceMethod yX7_isOpen, Cond.selects RX7 yX7_isOpen yX7_isOpen, Cond.code yX7_isOpen cX7_isOpen 3 (some .boolean), Cond.methodLink RX7 33 yX7_ofGate, Cond.static yX7_ofGate, Cond.code yX7_ofGate cX7_ofGate 2 (some .int), Cond.methodLink RX7 47 yX7_off, Cond.instanceMethod yX7_off, Cond.selects RX7 yX7_off yX7_off, Cond.code yX7_off cX7_off 4 (some .int), Cond.methodLink RX7 44 yX7_level]
def wsX7_openFor_r2 : List Cond := [Cond.instanceMethod yX7_level, Cond.selects RX7 yX7_level yX7_level, Cond.code yX7_level cX7_level 6 (some .int), Cond.methodLink RX7 29 yX7_ofStore, Cond.static yX7_ofStore, Cond.code yX7_ofStore cX7_ofStore 2 (some .int)]
def wsX7_openFor : List Cond := .code yX7_openFor cX7_openFor 4 (some .int) :: ((wsX7_openFor_r1 ++ wsX7_openFor_r2) ++ wsX70)
def wsX7_untilPassed_r1 : List Cond := [Cond.methodLink RX7 111 yX7_isWord, Cond.instanceMethod yX7_isWord, Cond.selects RX7 yX7_isWord yX7_isWord, Cond.initialized RX7, Cond.code yX7_isWord cX7_isWord 2 (some .boolean), Cond.fieldLink RX7 7 "TideWordsModel" "s" "[I", Cond.methodLink RX7 36 yX7_in, Cond.static yX7_in, Cond.code yX7_in cX7_in 3 (some .boolean), Cond.methodLink RX7 129 yX7_putAside, Cond.instanceMethod yX7_putAside, Cond.selects RX7 yX7_putAside yX7_putAside, Cond.code yX7_putAside cX7_putAside 2 none, Cond.fieldLink RX7 13 "TideWordsModel" "aside" "[I", Cond.methodLink RX7 64 yX7_hasPassed, Cond.instanceMethod yX7_hasPassed, Cond.selects RX7 yX7_hasPassed yX7_hasPassed, Cond.code yX7_hasPassed cX7_hasPassed 2 (some .boolean), Cond.methodLink RX7 55 yX7_ofWord, Cond.static yX7_ofWord, Cond.code yX7_ofWord cX7_ofWord 2 (some .int), Cond.methodLink RX7 86 yX7_step, Cond.instanceMethod yX7_step, Cond.selects RX7 yX7_step yX7_step]
def wsX7_untilPassed_r2 : List Cond := [Cond.code yX7_step cX7_step 2 none, Cond.methodLink RX7 78 yX7_openNow, Cond.instanceMethod yX7_openNow, Cond.selects RX7 yX7_openNow yX7_openNow, Cond.code yX7_openNow cX7_openNow 3 (some .int), Cond.methodLink RX7 51 yX7_isOpen, Cond.instanceMethod yX7_isOpen, Cond.selects RX7 yX7_isOpen yX7_isOpen, Cond.code yX7_isOpen cX7_isOpen 3 (some .boolean), Cond.methodLink RX7 33 yX7_ofGate, Cond.static yX7_ofGate, Cond.code yX7_ofGate cX7_ofGate 2 (some .int), Cond.methodLink RX7 47 yX7_off, Cond.instanceMethod yX7_off, Cond.selects RX7 yX7_off yX7_off, Cond.code yX7_off cX7_off 4 (some .int), Cond.methodLink RX7 44 yX7_level, Cond.instanceMethod yX7_level, Cond.selects RX7 yX7_level yX7_level, Cond.code yX7_level cX7_level 6 (some .int), Cond.methodLink RX7 29 yX7_ofStore, Cond.static yX7_ofStore, Cond.code yX7_ofStore cX7_ofStore 2 (some .int), Cond.methodLink RX7 82 yX7_acts]
def wsX7_untilPassed_r3 : List Cond := [Cond.instanceMethod yX7_acts, Cond.selects RX7 yX7_acts yX7_acts, Cond.code yX7_acts cX7_acts 5 none, Cond.methodLink RX7 68 yX7_takes, Cond.instanceMethod yX7_takes, Cond.selects RX7 yX7_takes yX7_takes, Cond.code yX7_takes cX7_takes 5 (some .int), Cond.methodLink RX7 61 yX7_inRow, Cond.static yX7_inRow, Cond.code yX7_inRow cX7_inRow 2 (some .int), Cond.methodLink RX7 58 yX7_lettersOf, Cond.instanceMethod yX7_lettersOf, Cond.selects RX7 yX7_lettersOf yX7_lettersOf, Cond.code yX7_lettersOf cX7_lettersOf 4 (some .int), Cond.methodLink RX7 71 yX7_comes, Cond.instanceMethod yX7_comes, Cond.selects RX7 yX7_comes yX7_comes, Cond.code yX7_comes cX7_comes 3 none, Cond.methodLink RX7 75 yX7_goesBack, Cond.instanceMethod yX7_goesBack, Cond.selects RX7 yX7_goesBack yX7_goesBack, Cond.code yX7_goesBack cX7_goesBack 4 none, Cond.methodLink RX7 132 yX7_putBack, Cond.instanceMethod yX7_putBack]
def wsX7_untilPassed_r4 : List Cond := [Cond.selects RX7 yX7_putBack yX7_putBack, Cond.code yX7_putBack cX7_putBack 2 none]
def wsX7_untilPassed : List Cond := .code yX7_untilPassed cX7_untilPassed 4 (some .int) :: ((wsX7_untilPassed_r1 ++ (wsX7_untilPassed_r2 ++ (wsX7_untilPassed_r3 ++ wsX7_untilPassed_r4))) ++ wsX70)
def wsX7_ifRun_r1 : List Cond := [Cond.fieldLink RX7 7 "TideWordsModel" "s" "[I", Cond.methodLink RX7 36 yX7_in, Cond.static yX7_in, Cond.initialized RX7, Cond.code yX7_in cX7_in 3 (some .boolean), Cond.methodLink RX7 129 yX7_putAside, Cond.instanceMethod yX7_putAside, Cond.selects RX7 yX7_putAside yX7_putAside, Cond.code yX7_putAside cX7_putAside 2 none, Cond.fieldLink RX7 13 "TideWordsModel" "aside" "[I", Cond.methodLink RX7 102 yX7_passedWords, Cond.instanceMethod yX7_passedWords, Cond.selects RX7 yX7_passedWords yX7_passedWords, Cond.code yX7_passedWords cX7_passedWords 3 (some .int), Cond.methodLink RX7 55 yX7_ofWord, Cond.static yX7_ofWord, Cond.code yX7_ofWord cX7_ofWord 2 (some .int), Cond.methodLink RX7 135 yX7_backs, Cond.instanceMethod yX7_backs, Cond.selects RX7 yX7_backs yX7_backs, Cond.code yX7_backs cX7_backs 3 (some .int), Cond.methodLink RX7 105 yX7_runs, Cond.instanceMethod yX7_runs, Cond.selects RX7 yX7_runs yX7_runs]
def wsX7_ifRun_r2 : List Cond := [Cond.code yX7_runs cX7_runs 3 none, Cond.methodLink RX7 86 yX7_step, Cond.instanceMethod yX7_step, Cond.selects RX7 yX7_step yX7_step, Cond.code yX7_step cX7_step 2 none, Cond.methodLink RX7 78 yX7_openNow, Cond.instanceMethod yX7_openNow, Cond.selects RX7 yX7_openNow yX7_openNow, Cond.code yX7_openNow cX7_openNow 3 (some .int), Cond.methodLink RX7 51 yX7_isOpen, Cond.instanceMethod yX7_isOpen, Cond.selects RX7 yX7_isOpen yX7_isOpen, Cond.code yX7_isOpen cX7_isOpen 3 (some .boolean), Cond.methodLink RX7 33 yX7_ofGate, Cond.static yX7_ofGate, Cond.code yX7_ofGate cX7_ofGate 2 (some .int), Cond.methodLink RX7 47 yX7_off, Cond.instanceMethod yX7_off, Cond.selects RX7 yX7_off yX7_off, Cond.code yX7_off cX7_off 4 (some .int), Cond.methodLink RX7 44 yX7_level, Cond.instanceMethod yX7_level, Cond.selects RX7 yX7_level yX7_level, Cond.code yX7_level cX7_level 6 (some .int)]
def wsX7_ifRun_r3 : List Cond := [Cond.methodLink RX7 29 yX7_ofStore, Cond.static yX7_ofStore, Cond.code yX7_ofStore cX7_ofStore 2 (some .int), Cond.methodLink RX7 82 yX7_acts, Cond.instanceMethod yX7_acts, Cond.selects RX7 yX7_acts yX7_acts, Cond.code yX7_acts cX7_acts 5 none, Cond.methodLink RX7 68 yX7_takes, Cond.instanceMethod yX7_takes, Cond.selects RX7 yX7_takes yX7_takes, Cond.code yX7_takes cX7_takes 5 (some .int), Cond.methodLink RX7 61 yX7_inRow, Cond.static yX7_inRow, Cond.code yX7_inRow cX7_inRow 2 (some .int), Cond.methodLink RX7 64 yX7_hasPassed, Cond.instanceMethod yX7_hasPassed, Cond.selects RX7 yX7_hasPassed yX7_hasPassed, Cond.code yX7_hasPassed cX7_hasPassed 2 (some .boolean), Cond.methodLink RX7 58 yX7_lettersOf, Cond.instanceMethod yX7_lettersOf, Cond.selects RX7 yX7_lettersOf yX7_lettersOf, Cond.code yX7_lettersOf cX7_lettersOf 4 (some .int), Cond.methodLink RX7 71 yX7_comes, Cond.instanceMethod yX7_comes]
def wsX7_ifRun_r4 : List Cond := [Cond.selects RX7 yX7_comes yX7_comes, Cond.code yX7_comes cX7_comes 3 none, Cond.methodLink RX7 75 yX7_goesBack, Cond.instanceMethod yX7_goesBack, Cond.selects RX7 yX7_goesBack yX7_goesBack, Cond.code yX7_goesBack cX7_goesBack 4 none, Cond.methodLink RX7 132 yX7_putBack, Cond.instanceMethod yX7_putBack, Cond.selects RX7 yX7_putBack yX7_putBack, Cond.code yX7_putBack cX7_putBack 2 none]
def wsX7_ifRun : List Cond := .code yX7_ifRun cX7_ifRun 5 (some .int) :: ((wsX7_ifRun_r1 ++ (wsX7_ifRun_r2 ++ (wsX7_ifRun_r3 ++ wsX7_ifRun_r4))) ++ wsX70)
def wsX7_leastSlack_r1 : List Cond := [Cond.fieldLink RX7 7 "TideWordsModel" "s" "[I", Cond.methodLink RX7 98 yX7_isGate, Cond.static yX7_isGate, Cond.initialized RX7, Cond.code yX7_isGate cX7_isGate 1 (some .boolean), Cond.methodLink RX7 36 yX7_in, Cond.static yX7_in, Cond.code yX7_in cX7_in 3 (some .boolean), Cond.methodLink RX7 102 yX7_passedWords, Cond.instanceMethod yX7_passedWords, Cond.selects RX7 yX7_passedWords yX7_passedWords, Cond.code yX7_passedWords cX7_passedWords 3 (some .int), Cond.methodLink RX7 55 yX7_ofWord, Cond.static yX7_ofWord, Cond.code yX7_ofWord cX7_ofWord 2 (some .int), Cond.methodLink RX7 129 yX7_putAside, Cond.instanceMethod yX7_putAside, Cond.selects RX7 yX7_putAside yX7_putAside, Cond.code yX7_putAside cX7_putAside 2 none, Cond.fieldLink RX7 13 "TideWordsModel" "aside" "[I", Cond.methodLink RX7 33 yX7_ofGate, Cond.static yX7_ofGate, Cond.code yX7_ofGate cX7_ofGate 2 (some .int), Cond.methodLink RX7 105 yX7_runs]
def wsX7_leastSlack_r2 : List Cond := [Cond.instanceMethod yX7_runs, Cond.selects RX7 yX7_runs yX7_runs, Cond.code yX7_runs cX7_runs 3 none, Cond.methodLink RX7 86 yX7_step, Cond.instanceMethod yX7_step, Cond.selects RX7 yX7_step yX7_step, Cond.code yX7_step cX7_step 2 none, Cond.methodLink RX7 78 yX7_openNow, Cond.instanceMethod yX7_openNow, Cond.selects RX7 yX7_openNow yX7_openNow, Cond.code yX7_openNow cX7_openNow 3 (some .int), Cond.methodLink RX7 51 yX7_isOpen, Cond.instanceMethod yX7_isOpen, Cond.selects RX7 yX7_isOpen yX7_isOpen, Cond.code yX7_isOpen cX7_isOpen 3 (some .boolean), Cond.methodLink RX7 47 yX7_off, Cond.instanceMethod yX7_off, Cond.selects RX7 yX7_off yX7_off, Cond.code yX7_off cX7_off 4 (some .int), Cond.methodLink RX7 44 yX7_level, Cond.instanceMethod yX7_level, Cond.selects RX7 yX7_level yX7_level, Cond.code yX7_level cX7_level 6 (some .int), Cond.methodLink RX7 29 yX7_ofStore]
def wsX7_leastSlack_r3 : List Cond := [Cond.static yX7_ofStore, Cond.code yX7_ofStore cX7_ofStore 2 (some .int), Cond.methodLink RX7 82 yX7_acts, Cond.instanceMethod yX7_acts, Cond.selects RX7 yX7_acts yX7_acts, Cond.code yX7_acts cX7_acts 5 none, Cond.methodLink RX7 68 yX7_takes, Cond.instanceMethod yX7_takes, Cond.selects RX7 yX7_takes yX7_takes, Cond.code yX7_takes cX7_takes 5 (some .int), Cond.methodLink RX7 61 yX7_inRow, Cond.static yX7_inRow, Cond.code yX7_inRow cX7_inRow 2 (some .int), Cond.methodLink RX7 64 yX7_hasPassed, Cond.instanceMethod yX7_hasPassed, Cond.selects RX7 yX7_hasPassed yX7_hasPassed, Cond.code yX7_hasPassed cX7_hasPassed 2 (some .boolean), Cond.methodLink RX7 58 yX7_lettersOf, Cond.instanceMethod yX7_lettersOf, Cond.selects RX7 yX7_lettersOf yX7_lettersOf, Cond.code yX7_lettersOf cX7_lettersOf 4 (some .int), Cond.methodLink RX7 71 yX7_comes, Cond.instanceMethod yX7_comes, Cond.selects RX7 yX7_comes yX7_comes]
def wsX7_leastSlack_r4 : List Cond := [Cond.code yX7_comes cX7_comes 3 none, Cond.methodLink RX7 75 yX7_goesBack, Cond.instanceMethod yX7_goesBack, Cond.selects RX7 yX7_goesBack yX7_goesBack, Cond.code yX7_goesBack cX7_goesBack 4 none, Cond.methodLink RX7 132 yX7_putBack, Cond.instanceMethod yX7_putBack, Cond.selects RX7 yX7_putBack yX7_putBack, Cond.code yX7_putBack cX7_putBack 2 none]
def wsX7_leastSlack : List Cond := .code yX7_leastSlack cX7_leastSlack 8 (some .int) :: ((wsX7_leastSlack_r1 ++ (wsX7_leastSlack_r2 ++ (wsX7_leastSlack_r3 ++ wsX7_leastSlack_r4))) ++ wsX70)
def wsX7_opensWith : List Cond := .code yX7_opensWith cX7_opensWith 7 (some .int) :: ([.fieldLink RX7 7 "TideWordsModel" "s" "[I", .methodLink RX7 29 yX7_ofStore, .static yX7_ofStore, .initialized RX7, .code yX7_ofStore cX7_ofStore 2 (some .int), .methodLink RX7 47 yX7_off, .instanceMethod yX7_off, .selects RX7 yX7_off yX7_off, .code yX7_off cX7_off 4 (some .int), .methodLink RX7 44 yX7_level, .instanceMethod yX7_level, .selects RX7 yX7_level yX7_level, .code yX7_level cX7_level 6 (some .int), .methodLink RX7 33 yX7_ofGate, .static yX7_ofGate, .code yX7_ofGate cX7_ofGate 2 (some .int)] ++ wsX70)
def wsX7_bestLie_r1 : List Cond := [Cond.methodLink RX7 89 yX7_isStore, Cond.static yX7_isStore, Cond.initialized RX7, Cond.code yX7_isStore cX7_isStore 1 (some .boolean), Cond.methodLink RX7 36 yX7_in, Cond.static yX7_in, Cond.code yX7_in cX7_in 3 (some .boolean), Cond.methodLink RX7 98 yX7_isGate, Cond.static yX7_isGate, Cond.code yX7_isGate cX7_isGate 1 (some .boolean), Cond.methodLink RX7 138 yX7_opensWith, Cond.instanceMethod yX7_opensWith, Cond.selects RX7 yX7_opensWith yX7_opensWith, Cond.code yX7_opensWith cX7_opensWith 7 (some .int), Cond.fieldLink RX7 7 "TideWordsModel" "s" "[I", Cond.methodLink RX7 29 yX7_ofStore, Cond.static yX7_ofStore, Cond.code yX7_ofStore cX7_ofStore 2 (some .int), Cond.methodLink RX7 47 yX7_off, Cond.instanceMethod yX7_off, Cond.selects RX7 yX7_off yX7_off, Cond.code yX7_off cX7_off 4 (some .int), Cond.methodLink RX7 44 yX7_level, Cond.instanceMethod yX7_level]
def wsX7_bestLie_r2 : List Cond := [Cond.selects RX7 yX7_level yX7_level, Cond.code yX7_level cX7_level 6 (some .int), Cond.methodLink RX7 33 yX7_ofGate, Cond.static yX7_ofGate, Cond.code yX7_ofGate cX7_ofGate 2 (some .int)]
def wsX7_bestLie : List Cond := .code yX7_bestLie cX7_bestLie 8 (some .int) :: ((wsX7_bestLie_r1 ++ wsX7_bestLie_r2) ++ wsX70)
def wsX7_write : List Cond := .code yX7_write cX7_write 8 (some .int) :: ([.constantLong RX7 142 (255), .fieldLink RX7 123 "TideWordsModel" "length" "I", .fieldLink RX7 26 "TideWordsModel" "pad" "[I", .methodLink RX7 36 yX7_in, .static yX7_in, .initialized RX7, .code yX7_in cX7_in 3 (some .boolean)] ++ wsX70)
def wsX7_wipe : List Cond := .code yX7_wipe cX7_wipe 2 (some .int) :: ([.fieldLink RX7 123 "TideWordsModel" "length" "I"] ++ wsX70)
def wsX7_behind : List Cond := .code yX7_behind cX7_behind 3 (some .int) :: ([.fieldLink RX7 123 "TideWordsModel" "length" "I", .fieldLink RX7 26 "TideWordsModel" "pad" "[I", .methodLink RX7 36 yX7_in, .static yX7_in, .initialized RX7, .code yX7_in cX7_in 3 (some .boolean)] ++ wsX70)
def wsX7_wrong : List Cond := .code yX7_wrong cX7_wrong 3 (some .int) :: ([.fieldLink RX7 123 "TideWordsModel" "length" "I", .fieldLink RX7 26 "TideWordsModel" "pad" "[I", .methodLink RX7 144 yX7_behind, .instanceMethod yX7_behind, .selects RX7 yX7_behind yX7_behind, .initialized RX7, .code yX7_behind cX7_behind 3 (some .int), .methodLink RX7 36 yX7_in, .static yX7_in, .code yX7_in cX7_in 3 (some .boolean)] ++ wsX70)
def wsX7_fault : List Cond := .code yX7_fault cX7_fault 1 (some .int) :: ([.methodLink RX7 147 yX7_wrong, .instanceMethod yX7_wrong, .selects RX7 yX7_wrong yX7_wrong, .initialized RX7, .code yX7_wrong cX7_wrong 3 (some .int), .fieldLink RX7 123 "TideWordsModel" "length" "I", .fieldLink RX7 26 "TideWordsModel" "pad" "[I", .methodLink RX7 144 yX7_behind, .instanceMethod yX7_behind, .selects RX7 yX7_behind yX7_behind, .code yX7_behind cX7_behind 3 (some .int), .methodLink RX7 36 yX7_in, .static yX7_in, .code yX7_in cX7_in 3 (some .boolean)] ++ wsX70)
def wsX7_told : List Cond := .code yX7_told cX7_told 3 (some .int) :: ([.fieldLink RX7 123 "TideWordsModel" "length" "I", .fieldLink RX7 26 "TideWordsModel" "pad" "[I"] ++ wsX70)
def wsX7_put_r1 : List Cond := [Cond.fieldLink RX7 7 "TideWordsModel" "s" "[I", Cond.fieldLink RX7 123 "TideWordsModel" "length" "I", Cond.fieldLink RX7 26 "TideWordsModel" "pad" "[I", Cond.methodLink RX7 89 yX7_isStore, Cond.static yX7_isStore, Cond.initialized RX7, Cond.code yX7_isStore cX7_isStore 1 (some .boolean), Cond.methodLink RX7 36 yX7_in, Cond.static yX7_in, Cond.code yX7_in cX7_in 3 (some .boolean), Cond.methodLink RX7 147 yX7_wrong, Cond.instanceMethod yX7_wrong, Cond.selects RX7 yX7_wrong yX7_wrong, Cond.code yX7_wrong cX7_wrong 3 (some .int), Cond.methodLink RX7 144 yX7_behind, Cond.instanceMethod yX7_behind, Cond.selects RX7 yX7_behind yX7_behind, Cond.code yX7_behind cX7_behind 3 (some .int), Cond.methodLink RX7 150 yX7_told, Cond.instanceMethod yX7_told, Cond.selects RX7 yX7_told yX7_told, Cond.code yX7_told cX7_told 3 (some .int), Cond.methodLink RX7 92 yX7_record, Cond.instanceMethod yX7_record]
def wsX7_put_r2 : List Cond := [Cond.selects RX7 yX7_record yX7_record, Cond.code yX7_record cX7_record 2 none, Cond.fieldLink RX7 40 "TideWordsModel" "kept" "I", Cond.fieldLink RX7 16 "TideWordsModel" "history" "[I", Cond.methodLink RX7 55 yX7_ofWord, Cond.static yX7_ofWord, Cond.code yX7_ofWord cX7_ofWord 2 (some .int), Cond.methodLink RX7 71 yX7_comes, Cond.instanceMethod yX7_comes, Cond.selects RX7 yX7_comes yX7_comes, Cond.code yX7_comes cX7_comes 3 none, Cond.methodLink RX7 61 yX7_inRow, Cond.static yX7_inRow, Cond.code yX7_inRow cX7_inRow 2 (some .int)]
def wsX7_put : List Cond := .code yX7_put cX7_put 5 (some .int) :: ((wsX7_put_r1 ++ wsX7_put_r2) ++ wsX70)
def wsX7_undo : List Cond := .code yX7_undo cX7_undo 2 (some .int) :: ([.fieldLink RX7 40 "TideWordsModel" "kept" "I", .fieldLink RX7 7 "TideWordsModel" "s" "[I", .fieldLink RX7 16 "TideWordsModel" "history" "[I"] ++ wsX70)
def wsX7_save : List Cond := .code yX7_save cX7_save 3 (some .int) :: ([.fieldLink RX7 19 "TideWordsModel" "slots" "[I", .fieldLink RX7 7 "TideWordsModel" "s" "[I", .fieldLink RX7 22 "TideWordsModel" "isSaved" "[Z", .methodLink RX7 36 yX7_in, .static yX7_in, .initialized RX7, .code yX7_in cX7_in 3 (some .boolean)] ++ wsX70)
def wsX7_restore : List Cond := .code yX7_restore cX7_restore 3 (some .int) :: ([.fieldLink RX7 22 "TideWordsModel" "isSaved" "[Z", .fieldLink RX7 7 "TideWordsModel" "s" "[I", .fieldLink RX7 19 "TideWordsModel" "slots" "[I", .methodLink RX7 36 yX7_in, .static yX7_in, .initialized RX7, .code yX7_in cX7_in 3 (some .boolean), .methodLink RX7 92 yX7_record, .instanceMethod yX7_record, .selects RX7 yX7_record yX7_record, .code yX7_record cX7_record 2 none, .fieldLink RX7 40 "TideWordsModel" "kept" "I", .fieldLink RX7 16 "TideWordsModel" "history" "[I"] ++ wsX70)
def wsJ9_abs_0f7a4 : List Cond := .code yJ9_abs_0f7a4 cJ9_abs_0f7a4 1 (some .int) :: ([])
def wsJ9_max_7cf53 : List Cond := .code yJ9_max_7cf53 cJ9_max_7cf53 2 (some .int) :: ([])
def wsJ9_min_7cf53 : List Cond := .code yJ9_min_7cf53 cJ9_min_7cf53 2 (some .int) :: ([])
abbrev vwCl : List vw_C := [(RX0, TX0, 1), (RX1, TX1, 8), (RX2, TX2, 2), (RX3, TX3, 4), (RX4, TX4, 8), (RX5, TX5, 6), (RX6, TX6, 9), (RX7, TX7, 8)]
end
section
theorem inJ9 : ∀ w ∈ wsJ90, w ∈ lw_tbl := by decide +kernel
theorem inJ10 : ∀ w ∈ wsJ100, w ∈ lw_tbl := by decide +kernel
theorem dX0_init_0 : decode cX0_init 0 = .ok (.aload_n 0, 1) := by decide +kernel
theorem dX0_init_1 : decode cX0_init 1 = .ok (.invokespecial 1, 3) := by decide +kernel
theorem dX0_init_4 : decode cX0_init 4 = .ok (.aload_n 0, 1) := by decide +kernel
theorem dX0_init_5 : decode cX0_init 5 = .ok (.iload_n 1, 1) := by decide +kernel
theorem dX0_init_6 : decode cX0_init 6 = .ok (.iconst 0, 1) := by decide +kernel
theorem dX0_init_7 : decode cX0_init 7 = .ok (.invokestatic 7, 3) := by decide +kernel
theorem dX0_init_10 : decode cX0_init 10 = .ok (.newarray .int, 2) := by decide +kernel
theorem dX0_init_12 : decode cX0_init 12 = .ok (.putfield 13, 3) := by decide +kernel
theorem dX0_init_15 : decode cX0_init 15 = .ok (.return_, 1) := by decide +kernel
theorem dX0_get_0 : decode cX0_get 0 = .ok (.iload_n 1, 1) := by decide +kernel
theorem dX0_get_1 : decode cX0_get 1 = .ok (.ifCond .lt 21, 3) := by decide +kernel
theorem dX0_get_4 : decode cX0_get 4 = .ok (.iload_n 1, 1) := by decide +kernel
theorem dX0_get_5 : decode cX0_get 5 = .ok (.aload_n 0, 1) := by decide +kernel
theorem dX0_get_6 : decode cX0_get 6 = .ok (.getfield 13, 3) := by decide +kernel
theorem dX0_get_9 : decode cX0_get 9 = .ok (.arraylength, 1) := by decide +kernel
theorem dX0_get_10 : decode cX0_get 10 = .ok (.if_icmp .ge 12, 3) := by decide +kernel
theorem dX0_get_13 : decode cX0_get 13 = .ok (.aload_n 0, 1) := by decide +kernel
theorem dX0_get_14 : decode cX0_get 14 = .ok (.getfield 13, 3) := by decide +kernel
theorem dX0_get_17 : decode cX0_get 17 = .ok (.iload_n 1, 1) := by decide +kernel
theorem dX0_get_18 : decode cX0_get 18 = .ok (.iaload, 1) := by decide +kernel
theorem dX0_get_19 : decode cX0_get 19 = .ok (.goto 4, 3) := by decide +kernel
theorem dX0_get_22 : decode cX0_get 22 = .ok (.iconst 0, 1) := by decide +kernel
theorem dX0_get_23 : decode cX0_get 23 = .ok (.ireturn, 1) := by decide +kernel
theorem dX0_set_0 : decode cX0_set 0 = .ok (.iload_n 1, 1) := by decide +kernel
theorem dX0_set_1 : decode cX0_set 1 = .ok (.ifCond .lt 19, 3) := by decide +kernel
theorem dX0_set_4 : decode cX0_set 4 = .ok (.iload_n 1, 1) := by decide +kernel
theorem dX0_set_5 : decode cX0_set 5 = .ok (.aload_n 0, 1) := by decide +kernel
theorem dX0_set_6 : decode cX0_set 6 = .ok (.getfield 13, 3) := by decide +kernel
theorem dX0_set_9 : decode cX0_set 9 = .ok (.arraylength, 1) := by decide +kernel
theorem dX0_set_10 : decode cX0_set 10 = .ok (.if_icmp .ge 10, 3) := by decide +kernel
theorem dX0_set_13 : decode cX0_set 13 = .ok (.aload_n 0, 1) := by decide +kernel
theorem dX0_set_14 : decode cX0_set 14 = .ok (.getfield 13, 3) := by decide +kernel
theorem dX0_set_17 : decode cX0_set 17 = .ok (.iload_n 1, 1) := by decide +kernel
theorem dX0_set_18 : decode cX0_set 18 = .ok (.iload_n 2, 1) := by decide +kernel
theorem dX0_set_19 : decode cX0_set 19 = .ok (.iastore, 1) := by decide +kernel
theorem dX0_set_20 : decode cX0_set 20 = .ok (.return_, 1) := by decide +kernel
theorem dX0_add_0 : decode cX0_add 0 = .ok (.iload_n 1, 1) := by decide +kernel
theorem dX0_add_1 : decode cX0_add 1 = .ok (.ifCond .lt 22, 3) := by decide +kernel
theorem dX0_add_4 : decode cX0_add 4 = .ok (.iload_n 1, 1) := by decide +kernel
theorem dX0_add_5 : decode cX0_add 5 = .ok (.aload_n 0, 1) := by decide +kernel
theorem dX0_add_6 : decode cX0_add 6 = .ok (.getfield 13, 3) := by decide +kernel
theorem dX0_add_9 : decode cX0_add 9 = .ok (.arraylength, 1) := by decide +kernel
theorem dX0_add_10 : decode cX0_add 10 = .ok (.if_icmp .ge 13, 3) := by decide +kernel
theorem dX0_add_13 : decode cX0_add 13 = .ok (.aload_n 0, 1) := by decide +kernel
theorem dX0_add_14 : decode cX0_add 14 = .ok (.getfield 13, 3) := by decide +kernel
theorem dX0_add_17 : decode cX0_add 17 = .ok (.iload_n 1, 1) := by decide +kernel
theorem dX0_add_18 : decode cX0_add 18 = .ok (.dup2, 1) := by decide +kernel
theorem dX0_add_19 : decode cX0_add 19 = .ok (.iaload, 1) := by decide +kernel
theorem dX0_add_20 : decode cX0_add 20 = .ok (.iload_n 2, 1) := by decide +kernel
theorem dX0_add_21 : decode cX0_add 21 = .ok (.iadd, 1) := by decide +kernel
theorem dX0_add_22 : decode cX0_add 22 = .ok (.iastore, 1) := by decide +kernel
theorem dX0_add_23 : decode cX0_add 23 = .ok (.return_, 1) := by decide +kernel
theorem dX0_sum_0 : decode cX0_sum 0 = .ok (.iconst 0, 1) := by decide +kernel
theorem dX0_sum_1 : decode cX0_sum 1 = .ok (.istore_n 1, 1) := by decide +kernel
theorem dX0_sum_2 : decode cX0_sum 2 = .ok (.iconst 0, 1) := by decide +kernel
theorem dX0_sum_3 : decode cX0_sum 3 = .ok (.istore_n 2, 1) := by decide +kernel
theorem dX0_sum_4 : decode cX0_sum 4 = .ok (.iload_n 2, 1) := by decide +kernel
theorem dX0_sum_5 : decode cX0_sum 5 = .ok (.aload_n 0, 1) := by decide +kernel
theorem dX0_sum_6 : decode cX0_sum 6 = .ok (.getfield 13, 3) := by decide +kernel
theorem dX0_sum_9 : decode cX0_sum 9 = .ok (.arraylength, 1) := by decide +kernel
theorem dX0_sum_10 : decode cX0_sum 10 = .ok (.if_icmp .ge 18, 3) := by decide +kernel
theorem dX0_sum_13 : decode cX0_sum 13 = .ok (.iload_n 1, 1) := by decide +kernel
theorem dX0_sum_14 : decode cX0_sum 14 = .ok (.aload_n 0, 1) := by decide +kernel
theorem dX0_sum_15 : decode cX0_sum 15 = .ok (.getfield 13, 3) := by decide +kernel
theorem dX0_sum_18 : decode cX0_sum 18 = .ok (.iload_n 2, 1) := by decide +kernel
theorem dX0_sum_19 : decode cX0_sum 19 = .ok (.iaload, 1) := by decide +kernel
theorem dX0_sum_20 : decode cX0_sum 20 = .ok (.iadd, 1) := by decide +kernel
theorem dX0_sum_21 : decode cX0_sum 21 = .ok (.istore_n 1, 1) := by decide +kernel
theorem dX0_sum_22 : decode cX0_sum 22 = .ok (.iinc 2 1, 3) := by decide +kernel
theorem dX0_sum_25 : decode cX0_sum 25 = .ok (.goto (-21), 3) := by decide +kernel
theorem dX0_sum_28 : decode cX0_sum 28 = .ok (.iload_n 1, 1) := by decide +kernel
theorem dX0_sum_29 : decode cX0_sum 29 = .ok (.ireturn, 1) := by decide +kernel
theorem dX0_copyFrom_0 : decode cX0_copyFrom 0 = .ok (.aload_n 1, 1) := by decide +kernel
theorem dX0_copyFrom_1 : decode cX0_copyFrom 1 = .ok (.ifnull 29, 3) := by decide +kernel
theorem dX0_copyFrom_4 : decode cX0_copyFrom 4 = .ok (.aload_n 1, 1) := by decide +kernel
theorem dX0_copyFrom_5 : decode cX0_copyFrom 5 = .ok (.getfield 13, 3) := by decide +kernel
theorem dX0_copyFrom_8 : decode cX0_copyFrom 8 = .ok (.iconst 0, 1) := by decide +kernel
theorem dX0_copyFrom_9 : decode cX0_copyFrom 9 = .ok (.aload_n 0, 1) := by decide +kernel
theorem dX0_copyFrom_10 : decode cX0_copyFrom 10 = .ok (.getfield 13, 3) := by decide +kernel
theorem dX0_copyFrom_13 : decode cX0_copyFrom 13 = .ok (.iconst 0, 1) := by decide +kernel
theorem dX0_copyFrom_14 : decode cX0_copyFrom 14 = .ok (.aload_n 1, 1) := by decide +kernel
theorem dX0_copyFrom_15 : decode cX0_copyFrom 15 = .ok (.getfield 13, 3) := by decide +kernel
theorem dX0_copyFrom_18 : decode cX0_copyFrom 18 = .ok (.arraylength, 1) := by decide +kernel
theorem dX0_copyFrom_19 : decode cX0_copyFrom 19 = .ok (.aload_n 0, 1) := by decide +kernel
theorem dX0_copyFrom_20 : decode cX0_copyFrom 20 = .ok (.getfield 13, 3) := by decide +kernel
theorem dX0_copyFrom_23 : decode cX0_copyFrom 23 = .ok (.arraylength, 1) := by decide +kernel
theorem dX0_copyFrom_24 : decode cX0_copyFrom 24 = .ok (.invokestatic 19, 3) := by decide +kernel
theorem dX0_copyFrom_27 : decode cX0_copyFrom 27 = .ok (.invokestatic 22, 3) := by decide +kernel
theorem dX0_copyFrom_30 : decode cX0_copyFrom 30 = .ok (.return_, 1) := by decide +kernel
set_option maxRecDepth 20000 in
theorem ggX1_init_X0_init : GoodIn wsX1_init wsX0_init := goodIn_r _ [17, 18, 2, 3, 19, 20, 21, 22, 23, 24, 34] (by decide +kernel) (by decide +kernel)
set_option maxRecDepth 20000 in
theorem gX1_init_X0_init : GoodIn wsX1_init (wsX0_init) := ggX1_init_X0_init
set_option maxRecDepth 20000 in
theorem ggX1_init_X1_change : GoodIn wsX1_init wsX1_change := goodIn_r _ [29, 7, 8, 9, 30, 31, 32, 6, 33, 24, 35, 36, 37, 38, 39, 40, 41, 42, 34] (by decide +kernel) (by decide +kernel)
set_option maxRecDepth 20000 in
theorem gX1_init_X1_change : GoodIn wsX1_init (wsV RX1 41 RX1 yX1_change wsX1_change) := goodIn_app (goodIn_of _ (by decide +kernel)) ggX1_init_X1_change
set_option maxRecDepth 20000 in
theorem ggX1_init_X0_set : GoodIn wsX1_init wsX0_set := goodIn_r _ [33, 24, 34] (by decide +kernel) (by decide +kernel)
set_option maxRecDepth 20000 in
theorem gX1_init_X0_set : GoodIn wsX1_init (wsV RX1 45 RX0 yX0_set wsX0_set) := goodIn_app (goodIn_of _ (by decide +kernel)) ggX1_init_X0_set
theorem dX1_init_0 : decode cX1_init 0 = .ok (.aload_n 0, 1) := by decide +kernel
theorem dX1_init_1 : decode cX1_init 1 = .ok (.invokespecial 3, 3) := by decide +kernel
theorem dX1_init_4 : decode cX1_init 4 = .ok (.aload_n 0, 1) := by decide +kernel
theorem dX1_init_5 : decode cX1_init 5 = .ok (.new 9, 3) := by decide +kernel
theorem dX1_init_8 : decode cX1_init 8 = .ok (.dup, 1) := by decide +kernel
theorem dX1_init_9 : decode cX1_init 9 = .ok (.iconst 4, 1) := by decide +kernel
theorem dX1_init_10 : decode cX1_init 10 = .ok (.invokespecial 11, 3) := by decide +kernel
theorem dX1_init_13 : decode cX1_init 13 = .ok (.putfield 14, 3) := by decide +kernel
theorem dX1_init_16 : decode cX1_init 16 = .ok (.aload_n 0, 1) := by decide +kernel
theorem dX1_init_17 : decode cX1_init 17 = .ok (.new 9, 3) := by decide +kernel
theorem dX1_init_20 : decode cX1_init 20 = .ok (.dup, 1) := by decide +kernel
theorem dX1_init_21 : decode cX1_init 21 = .ok (.iconst 4, 1) := by decide +kernel
theorem dX1_init_22 : decode cX1_init 22 = .ok (.invokespecial 11, 3) := by decide +kernel
theorem dX1_init_25 : decode cX1_init 25 = .ok (.putfield 20, 3) := by decide +kernel
theorem dX1_init_28 : decode cX1_init 28 = .ok (.aload_n 0, 1) := by decide +kernel
theorem dX1_init_29 : decode cX1_init 29 = .ok (.new 9, 3) := by decide +kernel
theorem dX1_init_32 : decode cX1_init 32 = .ok (.dup, 1) := by decide +kernel
theorem dX1_init_33 : decode cX1_init 33 = .ok (.iconst 4, 1) := by decide +kernel
theorem dX1_init_34 : decode cX1_init 34 = .ok (.invokespecial 11, 3) := by decide +kernel
theorem dX1_init_37 : decode cX1_init 37 = .ok (.putfield 23, 3) := by decide +kernel
theorem dX1_init_40 : decode cX1_init 40 = .ok (.aload_n 0, 1) := by decide +kernel
theorem dX1_init_41 : decode cX1_init 41 = .ok (.new 9, 3) := by decide +kernel
theorem dX1_init_44 : decode cX1_init 44 = .ok (.dup, 1) := by decide +kernel
theorem dX1_init_45 : decode cX1_init 45 = .ok (.iconst 4, 1) := by decide +kernel
theorem dX1_init_46 : decode cX1_init 46 = .ok (.invokespecial 11, 3) := by decide +kernel
theorem dX1_init_49 : decode cX1_init 49 = .ok (.putfield 26, 3) := by decide +kernel
theorem dX1_init_52 : decode cX1_init 52 = .ok (.aload_n 0, 1) := by decide +kernel
theorem dX1_init_53 : decode cX1_init 53 = .ok (.new 9, 3) := by decide +kernel
theorem dX1_init_56 : decode cX1_init 56 = .ok (.dup, 1) := by decide +kernel
theorem dX1_init_57 : decode cX1_init 57 = .ok (.iconst 4, 1) := by decide +kernel
theorem dX1_init_58 : decode cX1_init 58 = .ok (.invokespecial 11, 3) := by decide +kernel
theorem dX1_init_61 : decode cX1_init 61 = .ok (.putfield 29, 3) := by decide +kernel
theorem dX1_init_64 : decode cX1_init 64 = .ok (.aload_n 0, 1) := by decide +kernel
theorem dX1_init_65 : decode cX1_init 65 = .ok (.new 9, 3) := by decide +kernel
theorem dX1_init_68 : decode cX1_init 68 = .ok (.dup, 1) := by decide +kernel
theorem dX1_init_69 : decode cX1_init 69 = .ok (.iconst 4, 1) := by decide +kernel
theorem dX1_init_70 : decode cX1_init 70 = .ok (.invokespecial 11, 3) := by decide +kernel
theorem dX1_init_73 : decode cX1_init 73 = .ok (.putfield 32, 3) := by decide +kernel
theorem dX1_init_76 : decode cX1_init 76 = .ok (.aload_n 0, 1) := by decide +kernel
theorem dX1_init_77 : decode cX1_init 77 = .ok (.new 9, 3) := by decide +kernel
theorem dX1_init_80 : decode cX1_init 80 = .ok (.dup, 1) := by decide +kernel
theorem dX1_init_81 : decode cX1_init 81 = .ok (.iconst 4, 1) := by decide +kernel
theorem dX1_init_82 : decode cX1_init 82 = .ok (.invokespecial 11, 3) := by decide +kernel
theorem dX1_init_85 : decode cX1_init 85 = .ok (.putfield 35, 3) := by decide +kernel
theorem dX1_init_88 : decode cX1_init 88 = .ok (.aload_n 0, 1) := by decide +kernel
theorem dX1_init_89 : decode cX1_init 89 = .ok (.new 9, 3) := by decide +kernel
theorem dX1_init_92 : decode cX1_init 92 = .ok (.dup, 1) := by decide +kernel
theorem dX1_init_93 : decode cX1_init 93 = .ok (.iconst 4, 1) := by decide +kernel
theorem dX1_init_94 : decode cX1_init 94 = .ok (.invokespecial 11, 3) := by decide +kernel
theorem dX1_init_97 : decode cX1_init 97 = .ok (.putfield 38, 3) := by decide +kernel
theorem dX1_init_100 : decode cX1_init 100 = .ok (.iconst 0, 1) := by decide +kernel
theorem dX1_init_101 : decode cX1_init 101 = .ok (.istore_n 1, 1) := by decide +kernel
theorem dX1_init_102 : decode cX1_init 102 = .ok (.iload_n 1, 1) := by decide +kernel
theorem dX1_init_103 : decode cX1_init 103 = .ok (.iconst 4, 1) := by decide +kernel
theorem dX1_init_104 : decode cX1_init 104 = .ok (.if_icmp .ge 30, 3) := by decide +kernel
theorem dX1_init_107 : decode cX1_init 107 = .ok (.aload_n 0, 1) := by decide +kernel
theorem dX1_init_108 : decode cX1_init 108 = .ok (.iload_n 1, 1) := by decide +kernel
theorem dX1_init_109 : decode cX1_init 109 = .ok (.iload_n 1, 1) := by decide +kernel
theorem dX1_init_110 : decode cX1_init 110 = .ok (.iconst 1, 1) := by decide +kernel
theorem dX1_init_111 : decode cX1_init 111 = .ok (.iand, 1) := by decide +kernel
theorem dX1_init_112 : decode cX1_init 112 = .ok (.iconst 5, 1) := by decide +kernel
theorem dX1_init_113 : decode cX1_init 113 = .ok (.iconst 0, 1) := by decide +kernel
theorem dX1_init_114 : decode cX1_init 114 = .ok (.invokevirtual 41, 3) := by decide +kernel
theorem dX1_init_117 : decode cX1_init 117 = .ok (.aload_n 0, 1) := by decide +kernel
theorem dX1_init_118 : decode cX1_init 118 = .ok (.getfield 29, 3) := by decide +kernel
theorem dX1_init_121 : decode cX1_init 121 = .ok (.iload_n 1, 1) := by decide +kernel
theorem dX1_init_122 : decode cX1_init 122 = .ok (.sipush (-1006), 3) := by decide +kernel
theorem dX1_init_125 : decode cX1_init 125 = .ok (.invokevirtual 45, 3) := by decide +kernel
theorem dX1_init_128 : decode cX1_init 128 = .ok (.iinc 1 1, 3) := by decide +kernel
theorem dX1_init_131 : decode cX1_init 131 = .ok (.goto (-29), 3) := by decide +kernel
theorem dX1_init_134 : decode cX1_init 134 = .ok (.return_, 1) := by decide +kernel
set_option maxRecDepth 20000 in
theorem ggX1_change_X0_set : GoodIn wsX1_change wsX0_set := goodIn_r _ [8, 9, 18] (by decide +kernel) (by decide +kernel)
set_option maxRecDepth 20000 in
theorem gX1_change_X0_set : GoodIn wsX1_change (wsV RX1 45 RX0 yX0_set wsX0_set) := goodIn_app (goodIn_of _ (by decide +kernel)) ggX1_change_X0_set
theorem dX1_change_0 : decode cX1_change 0 = .ok (.aload_n 0, 1) := by decide +kernel
theorem dX1_change_1 : decode cX1_change 1 = .ok (.getfield 14, 3) := by decide +kernel
theorem dX1_change_4 : decode cX1_change 4 = .ok (.iload_n 1, 1) := by decide +kernel
theorem dX1_change_5 : decode cX1_change 5 = .ok (.iload_n 2, 1) := by decide +kernel
theorem dX1_change_6 : decode cX1_change 6 = .ok (.invokevirtual 45, 3) := by decide +kernel
theorem dX1_change_9 : decode cX1_change 9 = .ok (.aload_n 0, 1) := by decide +kernel
theorem dX1_change_10 : decode cX1_change 10 = .ok (.getfield 20, 3) := by decide +kernel
theorem dX1_change_13 : decode cX1_change 13 = .ok (.iload_n 1, 1) := by decide +kernel
theorem dX1_change_14 : decode cX1_change 14 = .ok (.iload_n 3, 1) := by decide +kernel
theorem dX1_change_15 : decode cX1_change 15 = .ok (.invokevirtual 45, 3) := by decide +kernel
theorem dX1_change_18 : decode cX1_change 18 = .ok (.aload_n 0, 1) := by decide +kernel
theorem dX1_change_19 : decode cX1_change 19 = .ok (.getfield 23, 3) := by decide +kernel
theorem dX1_change_22 : decode cX1_change 22 = .ok (.iload_n 1, 1) := by decide +kernel
theorem dX1_change_23 : decode cX1_change 23 = .ok (.iload 4, 2) := by decide +kernel
theorem dX1_change_25 : decode cX1_change 25 = .ok (.invokevirtual 45, 3) := by decide +kernel
theorem dX1_change_28 : decode cX1_change 28 = .ok (.return_, 1) := by decide +kernel
set_option maxRecDepth 20000 in
theorem ggX1_isShut_X0_get : GoodIn wsX1_isShut wsX0_get := goodIn_r _ [6, 7, 16] (by decide +kernel) (by decide +kernel)
set_option maxRecDepth 20000 in
theorem gX1_isShut_X0_get : GoodIn wsX1_isShut (wsV RX1 49 RX0 yX0_get wsX0_get) := goodIn_app (goodIn_of _ (by decide +kernel)) ggX1_isShut_X0_get
theorem dX1_isShut_0 : decode cX1_isShut 0 = .ok (.aload_n 0, 1) := by decide +kernel
theorem dX1_isShut_1 : decode cX1_isShut 1 = .ok (.getfield 26, 3) := by decide +kernel
theorem dX1_isShut_4 : decode cX1_isShut 4 = .ok (.iload_n 1, 1) := by decide +kernel
theorem dX1_isShut_5 : decode cX1_isShut 5 = .ok (.invokevirtual 49, 3) := by decide +kernel
theorem dX1_isShut_8 : decode cX1_isShut 8 = .ok (.ifCond .eq 7, 3) := by decide +kernel
theorem dX1_isShut_11 : decode cX1_isShut 11 = .ok (.iconst 1, 1) := by decide +kernel
theorem dX1_isShut_12 : decode cX1_isShut 12 = .ok (.goto 4, 3) := by decide +kernel
theorem dX1_isShut_15 : decode cX1_isShut 15 = .ok (.iconst 0, 1) := by decide +kernel
theorem dX1_isShut_16 : decode cX1_isShut 16 = .ok (.ireturn, 1) := by decide +kernel
set_option maxRecDepth 20000 in
theorem ggX1_isOpenAcross_X1_isShut : GoodIn wsX1_isOpenAcross wsX1_isShut := goodIn_r _ [10, 11, 12, 13, 14, 15, 16, 17, 18, 19, 20, 21, 22, 23, 24, 25, 26] (by decide +kernel) (by decide +kernel)
set_option maxRecDepth 20000 in
theorem gX1_isOpenAcross_X1_isShut : GoodIn wsX1_isOpenAcross (wsV RX1 53 RX1 yX1_isShut wsX1_isShut) := goodIn_app (goodIn_of _ (by decide +kernel)) ggX1_isOpenAcross_X1_isShut
set_option maxRecDepth 20000 in
theorem ggX1_isOpenAcross_X0_get : GoodIn wsX1_isOpenAcross wsX0_get := goodIn_r _ [16, 17, 26] (by decide +kernel) (by decide +kernel)
set_option maxRecDepth 20000 in
theorem gX1_isOpenAcross_X0_get : GoodIn wsX1_isOpenAcross (wsV RX1 49 RX0 yX0_get wsX0_get) := goodIn_app (goodIn_of _ (by decide +kernel)) ggX1_isOpenAcross_X0_get
theorem dX1_isOpenAcross_0 : decode cX1_isOpenAcross 0 = .ok (.aload_n 0, 1) := by decide +kernel
theorem dX1_isOpenAcross_1 : decode cX1_isOpenAcross 1 = .ok (.iload_n 1, 1) := by decide +kernel
theorem dX1_isOpenAcross_2 : decode cX1_isOpenAcross 2 = .ok (.invokevirtual 53, 3) := by decide +kernel
theorem dX1_isOpenAcross_5 : decode cX1_isOpenAcross 5 = .ok (.ifCond .ne 22, 3) := by decide +kernel
theorem dX1_isOpenAcross_8 : decode cX1_isOpenAcross 8 = .ok (.iload_n 2, 1) := by decide +kernel
theorem dX1_isOpenAcross_9 : decode cX1_isOpenAcross 9 = .ok (.invokestatic 57, 3) := by decide +kernel
theorem dX1_isOpenAcross_12 : decode cX1_isOpenAcross 12 = .ok (.aload_n 0, 1) := by decide +kernel
theorem dX1_isOpenAcross_13 : decode cX1_isOpenAcross 13 = .ok (.getfield 20, 3) := by decide +kernel
theorem dX1_isOpenAcross_16 : decode cX1_isOpenAcross 16 = .ok (.iload_n 1, 1) := by decide +kernel
theorem dX1_isOpenAcross_17 : decode cX1_isOpenAcross 17 = .ok (.invokevirtual 49, 3) := by decide +kernel
theorem dX1_isOpenAcross_20 : decode cX1_isOpenAcross 20 = .ok (.if_icmp .gt 7, 3) := by decide +kernel
theorem dX1_isOpenAcross_23 : decode cX1_isOpenAcross 23 = .ok (.iconst 1, 1) := by decide +kernel
theorem dX1_isOpenAcross_24 : decode cX1_isOpenAcross 24 = .ok (.goto 4, 3) := by decide +kernel
theorem dX1_isOpenAcross_27 : decode cX1_isOpenAcross 27 = .ok (.iconst 0, 1) := by decide +kernel
theorem dX1_isOpenAcross_28 : decode cX1_isOpenAcross 28 = .ok (.ireturn, 1) := by decide +kernel
set_option maxRecDepth 20000 in
theorem ggX1_hasWord_X0_get : GoodIn wsX1_hasWord wsX0_get := goodIn_r _ [6, 7, 16] (by decide +kernel) (by decide +kernel)
set_option maxRecDepth 20000 in
theorem gX1_hasWord_X0_get : GoodIn wsX1_hasWord (wsV RX1 49 RX0 yX0_get wsX0_get) := goodIn_app (goodIn_of _ (by decide +kernel)) ggX1_hasWord_X0_get
theorem dX1_hasWord_0 : decode cX1_hasWord 0 = .ok (.aload_n 0, 1) := by decide +kernel
theorem dX1_hasWord_1 : decode cX1_hasWord 1 = .ok (.getfield 29, 3) := by decide +kernel
theorem dX1_hasWord_4 : decode cX1_hasWord 4 = .ok (.iload_n 1, 1) := by decide +kernel
theorem dX1_hasWord_5 : decode cX1_hasWord 5 = .ok (.invokevirtual 49, 3) := by decide +kernel
theorem dX1_hasWord_8 : decode cX1_hasWord 8 = .ok (.sipush (-1006), 3) := by decide +kernel
theorem dX1_hasWord_11 : decode cX1_hasWord 11 = .ok (.if_icmp .eq 7, 3) := by decide +kernel
theorem dX1_hasWord_14 : decode cX1_hasWord 14 = .ok (.iconst 1, 1) := by decide +kernel
theorem dX1_hasWord_15 : decode cX1_hasWord 15 = .ok (.goto 4, 3) := by decide +kernel
theorem dX1_hasWord_18 : decode cX1_hasWord 18 = .ok (.iconst 0, 1) := by decide +kernel
theorem dX1_hasWord_19 : decode cX1_hasWord 19 = .ok (.ireturn, 1) := by decide +kernel
set_option maxRecDepth 20000 in
theorem ggX1_release_X0_set : GoodIn wsX1_release wsX0_set := goodIn_r _ [7, 8, 17] (by decide +kernel) (by decide +kernel)
set_option maxRecDepth 20000 in
theorem gX1_release_X0_set : GoodIn wsX1_release (wsV RX1 45 RX0 yX0_set wsX0_set) := goodIn_app (goodIn_of _ (by decide +kernel)) ggX1_release_X0_set
theorem dX1_release_0 : decode cX1_release 0 = .ok (.aload_n 0, 1) := by decide +kernel
theorem dX1_release_1 : decode cX1_release 1 = .ok (.getfield 29, 3) := by decide +kernel
theorem dX1_release_4 : decode cX1_release 4 = .ok (.iload_n 1, 1) := by decide +kernel
theorem dX1_release_5 : decode cX1_release 5 = .ok (.sipush (-1006), 3) := by decide +kernel
theorem dX1_release_8 : decode cX1_release 8 = .ok (.invokevirtual 45, 3) := by decide +kernel
theorem dX1_release_11 : decode cX1_release 11 = .ok (.aload_n 0, 1) := by decide +kernel
theorem dX1_release_12 : decode cX1_release 12 = .ok (.getfield 32, 3) := by decide +kernel
theorem dX1_release_15 : decode cX1_release 15 = .ok (.iload_n 1, 1) := by decide +kernel
theorem dX1_release_16 : decode cX1_release 16 = .ok (.iconst 0, 1) := by decide +kernel
theorem dX1_release_17 : decode cX1_release 17 = .ok (.invokevirtual 45, 3) := by decide +kernel
theorem dX1_release_20 : decode cX1_release 20 = .ok (.return_, 1) := by decide +kernel
set_option maxRecDepth 20000 in
theorem ggX1_wordsInside_X1_hasWord : GoodIn wsX1_wordsInside wsX1_hasWord := goodIn_r _ [5, 6, 7, 8, 9, 10, 11, 12, 13, 14, 15, 16, 17, 18, 19, 20, 21] (by decide +kernel) (by decide +kernel)
set_option maxRecDepth 20000 in
theorem gX1_wordsInside_X1_hasWord : GoodIn wsX1_wordsInside (wsV RX1 62 RX1 yX1_hasWord wsX1_hasWord) := goodIn_app (goodIn_of _ (by decide +kernel)) ggX1_wordsInside_X1_hasWord
theorem dX1_wordsInside_0 : decode cX1_wordsInside 0 = .ok (.iconst 0, 1) := by decide +kernel
theorem dX1_wordsInside_1 : decode cX1_wordsInside 1 = .ok (.istore_n 1, 1) := by decide +kernel
theorem dX1_wordsInside_2 : decode cX1_wordsInside 2 = .ok (.iconst 0, 1) := by decide +kernel
theorem dX1_wordsInside_3 : decode cX1_wordsInside 3 = .ok (.istore_n 2, 1) := by decide +kernel
theorem dX1_wordsInside_4 : decode cX1_wordsInside 4 = .ok (.iload_n 2, 1) := by decide +kernel
theorem dX1_wordsInside_5 : decode cX1_wordsInside 5 = .ok (.iconst 4, 1) := by decide +kernel
theorem dX1_wordsInside_6 : decode cX1_wordsInside 6 = .ok (.if_icmp .ge 25, 3) := by decide +kernel
theorem dX1_wordsInside_9 : decode cX1_wordsInside 9 = .ok (.iload_n 1, 1) := by decide +kernel
theorem dX1_wordsInside_10 : decode cX1_wordsInside 10 = .ok (.aload_n 0, 1) := by decide +kernel
theorem dX1_wordsInside_11 : decode cX1_wordsInside 11 = .ok (.iload_n 2, 1) := by decide +kernel
theorem dX1_wordsInside_12 : decode cX1_wordsInside 12 = .ok (.invokevirtual 62, 3) := by decide +kernel
theorem dX1_wordsInside_15 : decode cX1_wordsInside 15 = .ok (.ifCond .eq 7, 3) := by decide +kernel
theorem dX1_wordsInside_18 : decode cX1_wordsInside 18 = .ok (.iconst 1, 1) := by decide +kernel
theorem dX1_wordsInside_19 : decode cX1_wordsInside 19 = .ok (.goto 4, 3) := by decide +kernel
theorem dX1_wordsInside_22 : decode cX1_wordsInside 22 = .ok (.iconst 0, 1) := by decide +kernel
theorem dX1_wordsInside_23 : decode cX1_wordsInside 23 = .ok (.iadd, 1) := by decide +kernel
theorem dX1_wordsInside_24 : decode cX1_wordsInside 24 = .ok (.istore_n 1, 1) := by decide +kernel
theorem dX1_wordsInside_25 : decode cX1_wordsInside 25 = .ok (.iinc 2 1, 3) := by decide +kernel
theorem dX1_wordsInside_28 : decode cX1_wordsInside 28 = .ok (.goto (-24), 3) := by decide +kernel
theorem dX1_wordsInside_31 : decode cX1_wordsInside 31 = .ok (.iload_n 1, 1) := by decide +kernel
theorem dX1_wordsInside_32 : decode cX1_wordsInside 32 = .ok (.ireturn, 1) := by decide +kernel
set_option maxRecDepth 20000 in
theorem ggX1_gateWith_X0_get : GoodIn wsX1_gateWith wsX0_get := goodIn_r _ [6, 7, 16] (by decide +kernel) (by decide +kernel)
set_option maxRecDepth 20000 in
theorem gX1_gateWith_X0_get : GoodIn wsX1_gateWith (wsV RX1 49 RX0 yX0_get wsX0_get) := goodIn_app (goodIn_of _ (by decide +kernel)) ggX1_gateWith_X0_get
theorem dX1_gateWith_0 : decode cX1_gateWith 0 = .ok (.iconst 0, 1) := by decide +kernel
theorem dX1_gateWith_1 : decode cX1_gateWith 1 = .ok (.istore_n 2, 1) := by decide +kernel
theorem dX1_gateWith_2 : decode cX1_gateWith 2 = .ok (.iload_n 2, 1) := by decide +kernel
theorem dX1_gateWith_3 : decode cX1_gateWith 3 = .ok (.iconst 4, 1) := by decide +kernel
theorem dX1_gateWith_4 : decode cX1_gateWith 4 = .ok (.if_icmp .ge 23, 3) := by decide +kernel
theorem dX1_gateWith_7 : decode cX1_gateWith 7 = .ok (.aload_n 0, 1) := by decide +kernel
theorem dX1_gateWith_8 : decode cX1_gateWith 8 = .ok (.getfield 29, 3) := by decide +kernel
theorem dX1_gateWith_11 : decode cX1_gateWith 11 = .ok (.iload_n 2, 1) := by decide +kernel
theorem dX1_gateWith_12 : decode cX1_gateWith 12 = .ok (.invokevirtual 49, 3) := by decide +kernel
theorem dX1_gateWith_15 : decode cX1_gateWith 15 = .ok (.iload_n 1, 1) := by decide +kernel
theorem dX1_gateWith_16 : decode cX1_gateWith 16 = .ok (.if_icmp .ne 5, 3) := by decide +kernel
theorem dX1_gateWith_19 : decode cX1_gateWith 19 = .ok (.iload_n 2, 1) := by decide +kernel
theorem dX1_gateWith_20 : decode cX1_gateWith 20 = .ok (.ireturn, 1) := by decide +kernel
theorem dX1_gateWith_21 : decode cX1_gateWith 21 = .ok (.iinc 2 1, 3) := by decide +kernel
theorem dX1_gateWith_24 : decode cX1_gateWith 24 = .ok (.goto (-22), 3) := by decide +kernel
theorem dX1_gateWith_27 : decode cX1_gateWith 27 = .ok (.sipush (-1006), 3) := by decide +kernel
theorem dX1_gateWith_30 : decode cX1_gateWith 30 = .ok (.ireturn, 1) := by decide +kernel
set_option maxRecDepth 20000 in
theorem ggX1_copyFrom_X0_copyFrom : GoodIn wsX1_copyFrom wsX0_copyFrom := goodIn_r _ [13, 14, 15, 16, 17, 18, 19, 20, 21, 22, 31] (by decide +kernel) (by decide +kernel)
set_option maxRecDepth 20000 in
theorem gX1_copyFrom_X0_copyFrom : GoodIn wsX1_copyFrom (wsV RX1 65 RX0 yX0_copyFrom wsX0_copyFrom) := goodIn_app (goodIn_of _ (by decide +kernel)) ggX1_copyFrom_X0_copyFrom
theorem dX1_copyFrom_0 : decode cX1_copyFrom 0 = .ok (.aload_n 1, 1) := by decide +kernel
theorem dX1_copyFrom_1 : decode cX1_copyFrom 1 = .ok (.ifnull 91, 3) := by decide +kernel
theorem dX1_copyFrom_4 : decode cX1_copyFrom 4 = .ok (.aload_n 0, 1) := by decide +kernel
theorem dX1_copyFrom_5 : decode cX1_copyFrom 5 = .ok (.getfield 14, 3) := by decide +kernel
theorem dX1_copyFrom_8 : decode cX1_copyFrom 8 = .ok (.aload_n 1, 1) := by decide +kernel
theorem dX1_copyFrom_9 : decode cX1_copyFrom 9 = .ok (.getfield 14, 3) := by decide +kernel
theorem dX1_copyFrom_12 : decode cX1_copyFrom 12 = .ok (.invokevirtual 65, 3) := by decide +kernel
theorem dX1_copyFrom_15 : decode cX1_copyFrom 15 = .ok (.aload_n 0, 1) := by decide +kernel
theorem dX1_copyFrom_16 : decode cX1_copyFrom 16 = .ok (.getfield 20, 3) := by decide +kernel
theorem dX1_copyFrom_19 : decode cX1_copyFrom 19 = .ok (.aload_n 1, 1) := by decide +kernel
theorem dX1_copyFrom_20 : decode cX1_copyFrom 20 = .ok (.getfield 20, 3) := by decide +kernel
theorem dX1_copyFrom_23 : decode cX1_copyFrom 23 = .ok (.invokevirtual 65, 3) := by decide +kernel
theorem dX1_copyFrom_26 : decode cX1_copyFrom 26 = .ok (.aload_n 0, 1) := by decide +kernel
theorem dX1_copyFrom_27 : decode cX1_copyFrom 27 = .ok (.getfield 23, 3) := by decide +kernel
theorem dX1_copyFrom_30 : decode cX1_copyFrom 30 = .ok (.aload_n 1, 1) := by decide +kernel
theorem dX1_copyFrom_31 : decode cX1_copyFrom 31 = .ok (.getfield 23, 3) := by decide +kernel
theorem dX1_copyFrom_34 : decode cX1_copyFrom 34 = .ok (.invokevirtual 65, 3) := by decide +kernel
theorem dX1_copyFrom_37 : decode cX1_copyFrom 37 = .ok (.aload_n 0, 1) := by decide +kernel
theorem dX1_copyFrom_38 : decode cX1_copyFrom 38 = .ok (.getfield 26, 3) := by decide +kernel
theorem dX1_copyFrom_41 : decode cX1_copyFrom 41 = .ok (.aload_n 1, 1) := by decide +kernel
theorem dX1_copyFrom_42 : decode cX1_copyFrom 42 = .ok (.getfield 26, 3) := by decide +kernel
theorem dX1_copyFrom_45 : decode cX1_copyFrom 45 = .ok (.invokevirtual 65, 3) := by decide +kernel
theorem dX1_copyFrom_48 : decode cX1_copyFrom 48 = .ok (.aload_n 0, 1) := by decide +kernel
theorem dX1_copyFrom_49 : decode cX1_copyFrom 49 = .ok (.getfield 29, 3) := by decide +kernel
theorem dX1_copyFrom_52 : decode cX1_copyFrom 52 = .ok (.aload_n 1, 1) := by decide +kernel
theorem dX1_copyFrom_53 : decode cX1_copyFrom 53 = .ok (.getfield 29, 3) := by decide +kernel
theorem dX1_copyFrom_56 : decode cX1_copyFrom 56 = .ok (.invokevirtual 65, 3) := by decide +kernel
theorem dX1_copyFrom_59 : decode cX1_copyFrom 59 = .ok (.aload_n 0, 1) := by decide +kernel
theorem dX1_copyFrom_60 : decode cX1_copyFrom 60 = .ok (.getfield 32, 3) := by decide +kernel
theorem dX1_copyFrom_63 : decode cX1_copyFrom 63 = .ok (.aload_n 1, 1) := by decide +kernel
theorem dX1_copyFrom_64 : decode cX1_copyFrom 64 = .ok (.getfield 32, 3) := by decide +kernel
theorem dX1_copyFrom_67 : decode cX1_copyFrom 67 = .ok (.invokevirtual 65, 3) := by decide +kernel
theorem dX1_copyFrom_70 : decode cX1_copyFrom 70 = .ok (.aload_n 0, 1) := by decide +kernel
theorem dX1_copyFrom_71 : decode cX1_copyFrom 71 = .ok (.getfield 35, 3) := by decide +kernel
theorem dX1_copyFrom_74 : decode cX1_copyFrom 74 = .ok (.aload_n 1, 1) := by decide +kernel
theorem dX1_copyFrom_75 : decode cX1_copyFrom 75 = .ok (.getfield 35, 3) := by decide +kernel
theorem dX1_copyFrom_78 : decode cX1_copyFrom 78 = .ok (.invokevirtual 65, 3) := by decide +kernel
theorem dX1_copyFrom_81 : decode cX1_copyFrom 81 = .ok (.aload_n 0, 1) := by decide +kernel
theorem dX1_copyFrom_82 : decode cX1_copyFrom 82 = .ok (.getfield 38, 3) := by decide +kernel
theorem dX1_copyFrom_85 : decode cX1_copyFrom 85 = .ok (.aload_n 1, 1) := by decide +kernel
theorem dX1_copyFrom_86 : decode cX1_copyFrom 86 = .ok (.getfield 38, 3) := by decide +kernel
theorem dX1_copyFrom_89 : decode cX1_copyFrom 89 = .ok (.invokevirtual 65, 3) := by decide +kernel
theorem dX1_copyFrom_92 : decode cX1_copyFrom 92 = .ok (.return_, 1) := by decide +kernel
set_option maxRecDepth 20000 in
theorem ggX2_init_X0_init : GoodIn wsX2_init wsX0_init := goodIn_r _ [10, 11, 2, 3, 12, 13, 14, 15, 16, 17, 18] (by decide +kernel) (by decide +kernel)
set_option maxRecDepth 20000 in
theorem gX2_init_X0_init : GoodIn wsX2_init (wsX0_init) := ggX2_init_X0_init
theorem dX2_init_0 : decode cX2_init 0 = .ok (.aload_n 0, 1) := by decide +kernel
theorem dX2_init_1 : decode cX2_init 1 = .ok (.invokespecial 3, 3) := by decide +kernel
theorem dX2_init_4 : decode cX2_init 4 = .ok (.aload_n 0, 1) := by decide +kernel
theorem dX2_init_5 : decode cX2_init 5 = .ok (.new 9, 3) := by decide +kernel
theorem dX2_init_8 : decode cX2_init 8 = .ok (.dup, 1) := by decide +kernel
theorem dX2_init_9 : decode cX2_init 9 = .ok (.bipush 60, 2) := by decide +kernel
theorem dX2_init_11 : decode cX2_init 11 = .ok (.invokespecial 11, 3) := by decide +kernel
theorem dX2_init_14 : decode cX2_init 14 = .ok (.putfield 14, 3) := by decide +kernel
theorem dX2_init_17 : decode cX2_init 17 = .ok (.return_, 1) := by decide +kernel
set_option maxRecDepth 20000 in
theorem ggX2_append_X0_set : GoodIn wsX2_append wsX0_set := goodIn_r _ [7, 8, 11] (by decide +kernel) (by decide +kernel)
set_option maxRecDepth 20000 in
theorem gX2_append_X0_set : GoodIn wsX2_append (wsV RX2 24 RX0 yX0_set wsX0_set) := goodIn_app (goodIn_of _ (by decide +kernel)) ggX2_append_X0_set
theorem dX2_append_0 : decode cX2_append 0 = .ok (.aload_n 0, 1) := by decide +kernel
theorem dX2_append_1 : decode cX2_append 1 = .ok (.getfield 20, 3) := by decide +kernel
theorem dX2_append_4 : decode cX2_append 4 = .ok (.bipush 60, 2) := by decide +kernel
theorem dX2_append_6 : decode cX2_append 6 = .ok (.if_icmp .ge 25, 3) := by decide +kernel
theorem dX2_append_9 : decode cX2_append 9 = .ok (.aload_n 0, 1) := by decide +kernel
theorem dX2_append_10 : decode cX2_append 10 = .ok (.getfield 14, 3) := by decide +kernel
theorem dX2_append_13 : decode cX2_append 13 = .ok (.aload_n 0, 1) := by decide +kernel
theorem dX2_append_14 : decode cX2_append 14 = .ok (.getfield 20, 3) := by decide +kernel
theorem dX2_append_17 : decode cX2_append 17 = .ok (.iload_n 1, 1) := by decide +kernel
theorem dX2_append_18 : decode cX2_append 18 = .ok (.invokevirtual 24, 3) := by decide +kernel
theorem dX2_append_21 : decode cX2_append 21 = .ok (.aload_n 0, 1) := by decide +kernel
theorem dX2_append_22 : decode cX2_append 22 = .ok (.dup, 1) := by decide +kernel
theorem dX2_append_23 : decode cX2_append 23 = .ok (.getfield 20, 3) := by decide +kernel
theorem dX2_append_26 : decode cX2_append 26 = .ok (.iconst 1, 1) := by decide +kernel
theorem dX2_append_27 : decode cX2_append 27 = .ok (.iadd, 1) := by decide +kernel
theorem dX2_append_28 : decode cX2_append 28 = .ok (.putfield 20, 3) := by decide +kernel
theorem dX2_append_31 : decode cX2_append 31 = .ok (.return_, 1) := by decide +kernel
set_option maxRecDepth 20000 in
theorem ggX2_wordsInside_X0_get : GoodIn wsX2_wordsInside wsX0_get := goodIn_r _ [7, 8, 11] (by decide +kernel) (by decide +kernel)
set_option maxRecDepth 20000 in
theorem gX2_wordsInside_X0_get : GoodIn wsX2_wordsInside (wsV RX2 28 RX0 yX0_get wsX0_get) := goodIn_app (goodIn_of _ (by decide +kernel)) ggX2_wordsInside_X0_get
theorem dX2_wordsInside_0 : decode cX2_wordsInside 0 = .ok (.iconst 1, 1) := by decide +kernel
theorem dX2_wordsInside_1 : decode cX2_wordsInside 1 = .ok (.istore_n 1, 1) := by decide +kernel
theorem dX2_wordsInside_2 : decode cX2_wordsInside 2 = .ok (.iconst 0, 1) := by decide +kernel
theorem dX2_wordsInside_3 : decode cX2_wordsInside 3 = .ok (.istore_n 2, 1) := by decide +kernel
theorem dX2_wordsInside_4 : decode cX2_wordsInside 4 = .ok (.iload_n 2, 1) := by decide +kernel
theorem dX2_wordsInside_5 : decode cX2_wordsInside 5 = .ok (.aload_n 0, 1) := by decide +kernel
theorem dX2_wordsInside_6 : decode cX2_wordsInside 6 = .ok (.getfield 20, 3) := by decide +kernel
theorem dX2_wordsInside_9 : decode cX2_wordsInside 9 = .ok (.if_icmp .ge 30, 3) := by decide +kernel
theorem dX2_wordsInside_12 : decode cX2_wordsInside 12 = .ok (.iload_n 1, 1) := by decide +kernel
theorem dX2_wordsInside_13 : decode cX2_wordsInside 13 = .ok (.aload_n 0, 1) := by decide +kernel
theorem dX2_wordsInside_14 : decode cX2_wordsInside 14 = .ok (.getfield 14, 3) := by decide +kernel
theorem dX2_wordsInside_17 : decode cX2_wordsInside 17 = .ok (.iload_n 2, 1) := by decide +kernel
theorem dX2_wordsInside_18 : decode cX2_wordsInside 18 = .ok (.invokevirtual 28, 3) := by decide +kernel
theorem dX2_wordsInside_21 : decode cX2_wordsInside 21 = .ok (.bipush 44, 2) := by decide +kernel
theorem dX2_wordsInside_23 : decode cX2_wordsInside 23 = .ok (.if_icmp .ne 7, 3) := by decide +kernel
theorem dX2_wordsInside_26 : decode cX2_wordsInside 26 = .ok (.iconst 1, 1) := by decide +kernel
theorem dX2_wordsInside_27 : decode cX2_wordsInside 27 = .ok (.goto 4, 3) := by decide +kernel
theorem dX2_wordsInside_30 : decode cX2_wordsInside 30 = .ok (.iconst 0, 1) := by decide +kernel
theorem dX2_wordsInside_31 : decode cX2_wordsInside 31 = .ok (.iadd, 1) := by decide +kernel
theorem dX2_wordsInside_32 : decode cX2_wordsInside 32 = .ok (.istore_n 1, 1) := by decide +kernel
theorem dX2_wordsInside_33 : decode cX2_wordsInside 33 = .ok (.iinc 2 1, 3) := by decide +kernel
theorem dX2_wordsInside_36 : decode cX2_wordsInside 36 = .ok (.goto (-32), 3) := by decide +kernel
theorem dX2_wordsInside_39 : decode cX2_wordsInside 39 = .ok (.iload_n 1, 1) := by decide +kernel
theorem dX2_wordsInside_40 : decode cX2_wordsInside 40 = .ok (.ireturn, 1) := by decide +kernel
set_option maxRecDepth 20000 in
theorem ggX2_faultPlace_X0_get : GoodIn wsX2_faultPlace wsX0_get := goodIn_r _ [7, 8, 11] (by decide +kernel) (by decide +kernel)
set_option maxRecDepth 20000 in
theorem gX2_faultPlace_X0_get : GoodIn wsX2_faultPlace (wsV RX2 28 RX0 yX0_get wsX0_get) := goodIn_app (goodIn_of _ (by decide +kernel)) ggX2_faultPlace_X0_get
theorem dX2_faultPlace_0 : decode cX2_faultPlace 0 = .ok (.iconst 0, 1) := by decide +kernel
theorem dX2_faultPlace_1 : decode cX2_faultPlace 1 = .ok (.istore_n 1, 1) := by decide +kernel
theorem dX2_faultPlace_2 : decode cX2_faultPlace 2 = .ok (.iconst 0, 1) := by decide +kernel
theorem dX2_faultPlace_3 : decode cX2_faultPlace 3 = .ok (.istore_n 2, 1) := by decide +kernel
theorem dX2_faultPlace_4 : decode cX2_faultPlace 4 = .ok (.iload_n 2, 1) := by decide +kernel
theorem dX2_faultPlace_5 : decode cX2_faultPlace 5 = .ok (.aload_n 0, 1) := by decide +kernel
theorem dX2_faultPlace_6 : decode cX2_faultPlace 6 = .ok (.getfield 20, 3) := by decide +kernel
theorem dX2_faultPlace_9 : decode cX2_faultPlace 9 = .ok (.if_icmp .ge 93, 3) := by decide +kernel
theorem dX2_faultPlace_12 : decode cX2_faultPlace 12 = .ok (.aload_n 0, 1) := by decide +kernel
theorem dX2_faultPlace_13 : decode cX2_faultPlace 13 = .ok (.getfield 14, 3) := by decide +kernel
theorem dX2_faultPlace_16 : decode cX2_faultPlace 16 = .ok (.iload_n 2, 1) := by decide +kernel
theorem dX2_faultPlace_17 : decode cX2_faultPlace 17 = .ok (.invokevirtual 28, 3) := by decide +kernel
theorem dX2_faultPlace_20 : decode cX2_faultPlace 20 = .ok (.istore_n 3, 1) := by decide +kernel
theorem dX2_faultPlace_21 : decode cX2_faultPlace 21 = .ok (.iload_n 3, 1) := by decide +kernel
theorem dX2_faultPlace_22 : decode cX2_faultPlace 22 = .ok (.bipush 97, 2) := by decide +kernel
theorem dX2_faultPlace_24 : decode cX2_faultPlace 24 = .ok (.if_icmp .lt 13, 3) := by decide +kernel
theorem dX2_faultPlace_27 : decode cX2_faultPlace 27 = .ok (.iload_n 3, 1) := by decide +kernel
theorem dX2_faultPlace_28 : decode cX2_faultPlace 28 = .ok (.bipush 122, 2) := by decide +kernel
theorem dX2_faultPlace_30 : decode cX2_faultPlace 30 = .ok (.if_icmp .gt 7, 3) := by decide +kernel
theorem dX2_faultPlace_33 : decode cX2_faultPlace 33 = .ok (.iconst 1, 1) := by decide +kernel
theorem dX2_faultPlace_34 : decode cX2_faultPlace 34 = .ok (.goto 4, 3) := by decide +kernel
theorem dX2_faultPlace_37 : decode cX2_faultPlace 37 = .ok (.iconst 0, 1) := by decide +kernel
theorem dX2_faultPlace_38 : decode cX2_faultPlace 38 = .ok (.istore 4, 2) := by decide +kernel
theorem dX2_faultPlace_40 : decode cX2_faultPlace 40 = .ok (.iload 4, 2) := by decide +kernel
theorem dX2_faultPlace_42 : decode cX2_faultPlace 42 = .ok (.ifCond .eq 17, 3) := by decide +kernel
theorem dX2_faultPlace_45 : decode cX2_faultPlace 45 = .ok (.iload_n 1, 1) := by decide +kernel
theorem dX2_faultPlace_46 : decode cX2_faultPlace 46 = .ok (.bipush 6, 2) := by decide +kernel
theorem dX2_faultPlace_48 : decode cX2_faultPlace 48 = .ok (.if_icmp .ge 7, 3) := by decide +kernel
theorem dX2_faultPlace_51 : decode cX2_faultPlace 51 = .ok (.iconst 1, 1) := by decide +kernel
theorem dX2_faultPlace_52 : decode cX2_faultPlace 52 = .ok (.goto 22, 3) := by decide +kernel
theorem dX2_faultPlace_55 : decode cX2_faultPlace 55 = .ok (.iconst 0, 1) := by decide +kernel
theorem dX2_faultPlace_56 : decode cX2_faultPlace 56 = .ok (.goto 18, 3) := by decide +kernel
theorem dX2_faultPlace_59 : decode cX2_faultPlace 59 = .ok (.iload_n 3, 1) := by decide +kernel
theorem dX2_faultPlace_60 : decode cX2_faultPlace 60 = .ok (.bipush 44, 2) := by decide +kernel
theorem dX2_faultPlace_62 : decode cX2_faultPlace 62 = .ok (.if_icmp .ne 11, 3) := by decide +kernel
theorem dX2_faultPlace_65 : decode cX2_faultPlace 65 = .ok (.iload_n 1, 1) := by decide +kernel
theorem dX2_faultPlace_66 : decode cX2_faultPlace 66 = .ok (.ifCond .le 7, 3) := by decide +kernel
theorem dX2_faultPlace_69 : decode cX2_faultPlace 69 = .ok (.iconst 1, 1) := by decide +kernel
theorem dX2_faultPlace_70 : decode cX2_faultPlace 70 = .ok (.goto 4, 3) := by decide +kernel
theorem dX2_faultPlace_73 : decode cX2_faultPlace 73 = .ok (.iconst 0, 1) := by decide +kernel
theorem dX2_faultPlace_74 : decode cX2_faultPlace 74 = .ok (.istore 5, 2) := by decide +kernel
theorem dX2_faultPlace_76 : decode cX2_faultPlace 76 = .ok (.iload 5, 2) := by decide +kernel
theorem dX2_faultPlace_78 : decode cX2_faultPlace 78 = .ok (.ifCond .ne 5, 3) := by decide +kernel
theorem dX2_faultPlace_81 : decode cX2_faultPlace 81 = .ok (.iload_n 2, 1) := by decide +kernel
theorem dX2_faultPlace_82 : decode cX2_faultPlace 82 = .ok (.ireturn, 1) := by decide +kernel
theorem dX2_faultPlace_83 : decode cX2_faultPlace 83 = .ok (.iload 4, 2) := by decide +kernel
theorem dX2_faultPlace_85 : decode cX2_faultPlace 85 = .ok (.ifCond .eq 9, 3) := by decide +kernel
theorem dX2_faultPlace_88 : decode cX2_faultPlace 88 = .ok (.iload_n 1, 1) := by decide +kernel
theorem dX2_faultPlace_89 : decode cX2_faultPlace 89 = .ok (.iconst 1, 1) := by decide +kernel
theorem dX2_faultPlace_90 : decode cX2_faultPlace 90 = .ok (.iadd, 1) := by decide +kernel
theorem dX2_faultPlace_91 : decode cX2_faultPlace 91 = .ok (.goto 4, 3) := by decide +kernel
theorem dX2_faultPlace_94 : decode cX2_faultPlace 94 = .ok (.iconst 0, 1) := by decide +kernel
theorem dX2_faultPlace_95 : decode cX2_faultPlace 95 = .ok (.istore_n 1, 1) := by decide +kernel
theorem dX2_faultPlace_96 : decode cX2_faultPlace 96 = .ok (.iinc 2 1, 3) := by decide +kernel
theorem dX2_faultPlace_99 : decode cX2_faultPlace 99 = .ok (.goto (-95), 3) := by decide +kernel
theorem dX2_faultPlace_102 : decode cX2_faultPlace 102 = .ok (.iload_n 1, 1) := by decide +kernel
theorem dX2_faultPlace_103 : decode cX2_faultPlace 103 = .ok (.ifCond .ne 10, 3) := by decide +kernel
theorem dX2_faultPlace_106 : decode cX2_faultPlace 106 = .ok (.aload_n 0, 1) := by decide +kernel
theorem dX2_faultPlace_107 : decode cX2_faultPlace 107 = .ok (.getfield 20, 3) := by decide +kernel
theorem dX2_faultPlace_110 : decode cX2_faultPlace 110 = .ok (.goto 6, 3) := by decide +kernel
theorem dX2_faultPlace_113 : decode cX2_faultPlace 113 = .ok (.sipush (-1006), 3) := by decide +kernel
theorem dX2_faultPlace_116 : decode cX2_faultPlace 116 = .ok (.ireturn, 1) := by decide +kernel
set_option maxRecDepth 20000 in
theorem ggX3_init_X0_init : GoodIn wsX3_init wsX0_init := goodIn_r _ [13, 14, 2, 3, 15, 16, 17, 18, 19, 20, 30] (by decide +kernel) (by decide +kernel)
set_option maxRecDepth 20000 in
theorem gX3_init_X0_init : GoodIn wsX3_init (wsX0_init) := ggX3_init_X0_init
set_option maxRecDepth 20000 in
theorem ggX3_init_X3_change : GoodIn wsX3_init wsX3_change := goodIn_r _ [25, 7, 8, 9, 26, 27, 28, 6, 29, 20, 31, 32, 33, 34, 30] (by decide +kernel) (by decide +kernel)
set_option maxRecDepth 20000 in
theorem gX3_init_X3_change : GoodIn wsX3_init (wsV RX3 29 RX3 yX3_change wsX3_change) := goodIn_app (goodIn_of _ (by decide +kernel)) ggX3_init_X3_change
theorem dX3_init_0 : decode cX3_init 0 = .ok (.aload_n 0, 1) := by decide +kernel
theorem dX3_init_1 : decode cX3_init 1 = .ok (.invokespecial 3, 3) := by decide +kernel
theorem dX3_init_4 : decode cX3_init 4 = .ok (.aload_n 0, 1) := by decide +kernel
theorem dX3_init_5 : decode cX3_init 5 = .ok (.new 9, 3) := by decide +kernel
theorem dX3_init_8 : decode cX3_init 8 = .ok (.dup, 1) := by decide +kernel
theorem dX3_init_9 : decode cX3_init 9 = .ok (.iconst 2, 1) := by decide +kernel
theorem dX3_init_10 : decode cX3_init 10 = .ok (.invokespecial 11, 3) := by decide +kernel
theorem dX3_init_13 : decode cX3_init 13 = .ok (.putfield 14, 3) := by decide +kernel
theorem dX3_init_16 : decode cX3_init 16 = .ok (.aload_n 0, 1) := by decide +kernel
theorem dX3_init_17 : decode cX3_init 17 = .ok (.new 9, 3) := by decide +kernel
theorem dX3_init_20 : decode cX3_init 20 = .ok (.dup, 1) := by decide +kernel
theorem dX3_init_21 : decode cX3_init 21 = .ok (.iconst 2, 1) := by decide +kernel
theorem dX3_init_22 : decode cX3_init 22 = .ok (.invokespecial 11, 3) := by decide +kernel
theorem dX3_init_25 : decode cX3_init 25 = .ok (.putfield 20, 3) := by decide +kernel
theorem dX3_init_28 : decode cX3_init 28 = .ok (.aload_n 0, 1) := by decide +kernel
theorem dX3_init_29 : decode cX3_init 29 = .ok (.new 9, 3) := by decide +kernel
theorem dX3_init_32 : decode cX3_init 32 = .ok (.dup, 1) := by decide +kernel
theorem dX3_init_33 : decode cX3_init 33 = .ok (.iconst 2, 1) := by decide +kernel
theorem dX3_init_34 : decode cX3_init 34 = .ok (.invokespecial 11, 3) := by decide +kernel
theorem dX3_init_37 : decode cX3_init 37 = .ok (.putfield 23, 3) := by decide +kernel
theorem dX3_init_40 : decode cX3_init 40 = .ok (.aload_n 0, 1) := by decide +kernel
theorem dX3_init_41 : decode cX3_init 41 = .ok (.new 9, 3) := by decide +kernel
theorem dX3_init_44 : decode cX3_init 44 = .ok (.dup, 1) := by decide +kernel
theorem dX3_init_45 : decode cX3_init 45 = .ok (.iconst 2, 1) := by decide +kernel
theorem dX3_init_46 : decode cX3_init 46 = .ok (.invokespecial 11, 3) := by decide +kernel
theorem dX3_init_49 : decode cX3_init 49 = .ok (.putfield 26, 3) := by decide +kernel
theorem dX3_init_52 : decode cX3_init 52 = .ok (.aload_n 0, 1) := by decide +kernel
theorem dX3_init_53 : decode cX3_init 53 = .ok (.iconst 0, 1) := by decide +kernel
theorem dX3_init_54 : decode cX3_init 54 = .ok (.bipush 100, 2) := by decide +kernel
theorem dX3_init_56 : decode cX3_init 56 = .ok (.bipush 30, 2) := by decide +kernel
theorem dX3_init_58 : decode cX3_init 58 = .ok (.bipush 24, 2) := by decide +kernel
theorem dX3_init_60 : decode cX3_init 60 = .ok (.invokevirtual 29, 3) := by decide +kernel
theorem dX3_init_63 : decode cX3_init 63 = .ok (.aload_n 0, 1) := by decide +kernel
theorem dX3_init_64 : decode cX3_init 64 = .ok (.iconst 1, 1) := by decide +kernel
theorem dX3_init_65 : decode cX3_init 65 = .ok (.bipush 100, 2) := by decide +kernel
theorem dX3_init_67 : decode cX3_init 67 = .ok (.bipush 30, 2) := by decide +kernel
theorem dX3_init_69 : decode cX3_init 69 = .ok (.bipush 20, 2) := by decide +kernel
theorem dX3_init_71 : decode cX3_init 71 = .ok (.invokevirtual 29, 3) := by decide +kernel
theorem dX3_init_74 : decode cX3_init 74 = .ok (.return_, 1) := by decide +kernel
set_option maxRecDepth 20000 in
theorem ggX3_change_X0_set : GoodIn wsX3_change wsX0_set := goodIn_r _ [8, 9, 14] (by decide +kernel) (by decide +kernel)
set_option maxRecDepth 20000 in
theorem gX3_change_X0_set : GoodIn wsX3_change (wsV RX3 33 RX0 yX0_set wsX0_set) := goodIn_app (goodIn_of _ (by decide +kernel)) ggX3_change_X0_set
theorem dX3_change_0 : decode cX3_change 0 = .ok (.aload_n 0, 1) := by decide +kernel
theorem dX3_change_1 : decode cX3_change 1 = .ok (.getfield 14, 3) := by decide +kernel
theorem dX3_change_4 : decode cX3_change 4 = .ok (.iload_n 1, 1) := by decide +kernel
theorem dX3_change_5 : decode cX3_change 5 = .ok (.iload_n 2, 1) := by decide +kernel
theorem dX3_change_6 : decode cX3_change 6 = .ok (.invokevirtual 33, 3) := by decide +kernel
theorem dX3_change_9 : decode cX3_change 9 = .ok (.aload_n 0, 1) := by decide +kernel
theorem dX3_change_10 : decode cX3_change 10 = .ok (.getfield 20, 3) := by decide +kernel
theorem dX3_change_13 : decode cX3_change 13 = .ok (.iload_n 1, 1) := by decide +kernel
theorem dX3_change_14 : decode cX3_change 14 = .ok (.iload_n 3, 1) := by decide +kernel
theorem dX3_change_15 : decode cX3_change 15 = .ok (.invokevirtual 33, 3) := by decide +kernel
theorem dX3_change_18 : decode cX3_change 18 = .ok (.aload_n 0, 1) := by decide +kernel
theorem dX3_change_19 : decode cX3_change 19 = .ok (.getfield 23, 3) := by decide +kernel
theorem dX3_change_22 : decode cX3_change 22 = .ok (.iload_n 1, 1) := by decide +kernel
theorem dX3_change_23 : decode cX3_change 23 = .ok (.iload 4, 2) := by decide +kernel
theorem dX3_change_25 : decode cX3_change 25 = .ok (.invokevirtual 33, 3) := by decide +kernel
theorem dX3_change_28 : decode cX3_change 28 = .ok (.return_, 1) := by decide +kernel
set_option maxRecDepth 20000 in
theorem ggX3_levelAt_X0_get : GoodIn wsX3_levelAt wsX0_get := goodIn_r _ [12, 13, 18] (by decide +kernel) (by decide +kernel)
set_option maxRecDepth 20000 in
theorem gX3_levelAt_X0_get : GoodIn wsX3_levelAt (wsV RX3 37 RX0 yX0_get wsX0_get) := goodIn_app (goodIn_of _ (by decide +kernel)) ggX3_levelAt_X0_get
theorem dX3_levelAt_0 : decode cX3_levelAt 0 = .ok (.aload_n 0, 1) := by decide +kernel
theorem dX3_levelAt_1 : decode cX3_levelAt 1 = .ok (.getfield 23, 3) := by decide +kernel
theorem dX3_levelAt_4 : decode cX3_levelAt 4 = .ok (.iload_n 1, 1) := by decide +kernel
theorem dX3_levelAt_5 : decode cX3_levelAt 5 = .ok (.invokevirtual 37, 3) := by decide +kernel
theorem dX3_levelAt_8 : decode cX3_levelAt 8 = .ok (.istore_n 3, 1) := by decide +kernel
theorem dX3_levelAt_9 : decode cX3_levelAt 9 = .ok (.aload_n 0, 1) := by decide +kernel
theorem dX3_levelAt_10 : decode cX3_levelAt 10 = .ok (.getfield 14, 3) := by decide +kernel
theorem dX3_levelAt_13 : decode cX3_levelAt 13 = .ok (.iload_n 1, 1) := by decide +kernel
theorem dX3_levelAt_14 : decode cX3_levelAt 14 = .ok (.invokevirtual 37, 3) := by decide +kernel
theorem dX3_levelAt_17 : decode cX3_levelAt 17 = .ok (.aload_n 0, 1) := by decide +kernel
theorem dX3_levelAt_18 : decode cX3_levelAt 18 = .ok (.getfield 20, 3) := by decide +kernel
theorem dX3_levelAt_21 : decode cX3_levelAt 21 = .ok (.iload_n 1, 1) := by decide +kernel
theorem dX3_levelAt_22 : decode cX3_levelAt 22 = .ok (.invokevirtual 37, 3) := by decide +kernel
theorem dX3_levelAt_25 : decode cX3_levelAt 25 = .ok (.isub, 1) := by decide +kernel
theorem dX3_levelAt_26 : decode cX3_levelAt 26 = .ok (.istore 4, 2) := by decide +kernel
theorem dX3_levelAt_28 : decode cX3_levelAt 28 = .ok (.iload_n 3, 1) := by decide +kernel
theorem dX3_levelAt_29 : decode cX3_levelAt 29 = .ok (.iconst 2, 1) := by decide +kernel
theorem dX3_levelAt_30 : decode cX3_levelAt 30 = .ok (.if_icmp .ge 6, 3) := by decide +kernel
theorem dX3_levelAt_33 : decode cX3_levelAt 33 = .ok (.iload 4, 2) := by decide +kernel
theorem dX3_levelAt_35 : decode cX3_levelAt 35 = .ok (.ireturn, 1) := by decide +kernel
theorem dX3_levelAt_36 : decode cX3_levelAt 36 = .ok (.iload_n 2, 1) := by decide +kernel
theorem dX3_levelAt_37 : decode cX3_levelAt 37 = .ok (.iload_n 3, 1) := by decide +kernel
theorem dX3_levelAt_38 : decode cX3_levelAt 38 = .ok (.irem, 1) := by decide +kernel
theorem dX3_levelAt_39 : decode cX3_levelAt 39 = .ok (.istore 5, 2) := by decide +kernel
theorem dX3_levelAt_41 : decode cX3_levelAt 41 = .ok (.iload 4, 2) := by decide +kernel
theorem dX3_levelAt_43 : decode cX3_levelAt 43 = .ok (.iconst 4, 1) := by decide +kernel
theorem dX3_levelAt_44 : decode cX3_levelAt 44 = .ok (.aload_n 0, 1) := by decide +kernel
theorem dX3_levelAt_45 : decode cX3_levelAt 45 = .ok (.getfield 20, 3) := by decide +kernel
theorem dX3_levelAt_48 : decode cX3_levelAt 48 = .ok (.iload_n 1, 1) := by decide +kernel
theorem dX3_levelAt_49 : decode cX3_levelAt 49 = .ok (.invokevirtual 37, 3) := by decide +kernel
theorem dX3_levelAt_52 : decode cX3_levelAt 52 = .ok (.imul, 1) := by decide +kernel
theorem dX3_levelAt_53 : decode cX3_levelAt 53 = .ok (.iload 5, 2) := by decide +kernel
theorem dX3_levelAt_55 : decode cX3_levelAt 55 = .ok (.iload_n 3, 1) := by decide +kernel
theorem dX3_levelAt_56 : decode cX3_levelAt 56 = .ok (.iload 5, 2) := by decide +kernel
theorem dX3_levelAt_58 : decode cX3_levelAt 58 = .ok (.isub, 1) := by decide +kernel
theorem dX3_levelAt_59 : decode cX3_levelAt 59 = .ok (.invokestatic 41, 3) := by decide +kernel
theorem dX3_levelAt_62 : decode cX3_levelAt 62 = .ok (.imul, 1) := by decide +kernel
theorem dX3_levelAt_63 : decode cX3_levelAt 63 = .ok (.iload_n 3, 1) := by decide +kernel
theorem dX3_levelAt_64 : decode cX3_levelAt 64 = .ok (.idiv, 1) := by decide +kernel
theorem dX3_levelAt_65 : decode cX3_levelAt 65 = .ok (.iadd, 1) := by decide +kernel
theorem dX3_levelAt_66 : decode cX3_levelAt 66 = .ok (.ireturn, 1) := by decide +kernel
set_option maxRecDepth 20000 in
theorem ggX3_toldAt_X3_levelAt : GoodIn wsX3_toldAt wsX3_levelAt := goodIn_r _ [6, 7, 8, 9, 10, 11, 12, 13, 14, 15, 16, 17, 18, 19, 20, 21, 22, 23, 24] (by decide +kernel) (by decide +kernel)
set_option maxRecDepth 20000 in
theorem gX3_toldAt_X3_levelAt : GoodIn wsX3_toldAt (wsV RX3 47 RX3 yX3_levelAt wsX3_levelAt) := goodIn_app (goodIn_of _ (by decide +kernel)) ggX3_toldAt_X3_levelAt
set_option maxRecDepth 20000 in
theorem ggX3_toldAt_X0_get : GoodIn wsX3_toldAt wsX0_get := goodIn_r _ [18, 19, 24] (by decide +kernel) (by decide +kernel)
set_option maxRecDepth 20000 in
theorem gX3_toldAt_X0_get : GoodIn wsX3_toldAt (wsV RX3 37 RX0 yX0_get wsX0_get) := goodIn_app (goodIn_of _ (by decide +kernel)) ggX3_toldAt_X0_get
theorem dX3_toldAt_0 : decode cX3_toldAt 0 = .ok (.aload_n 0, 1) := by decide +kernel
theorem dX3_toldAt_1 : decode cX3_toldAt 1 = .ok (.iload_n 1, 1) := by decide +kernel
theorem dX3_toldAt_2 : decode cX3_toldAt 2 = .ok (.iload_n 2, 1) := by decide +kernel
theorem dX3_toldAt_3 : decode cX3_toldAt 3 = .ok (.invokevirtual 47, 3) := by decide +kernel
theorem dX3_toldAt_6 : decode cX3_toldAt 6 = .ok (.aload_n 0, 1) := by decide +kernel
theorem dX3_toldAt_7 : decode cX3_toldAt 7 = .ok (.getfield 26, 3) := by decide +kernel
theorem dX3_toldAt_10 : decode cX3_toldAt 10 = .ok (.iload_n 1, 1) := by decide +kernel
theorem dX3_toldAt_11 : decode cX3_toldAt 11 = .ok (.invokevirtual 37, 3) := by decide +kernel
theorem dX3_toldAt_14 : decode cX3_toldAt 14 = .ok (.iadd, 1) := by decide +kernel
theorem dX3_toldAt_15 : decode cX3_toldAt 15 = .ok (.ireturn, 1) := by decide +kernel
set_option maxRecDepth 20000 in
theorem ggX3_gapAt_X3_toldAt : GoodIn wsX3_gapAt wsX3_toldAt := goodIn_r _ [5, 6, 7, 8, 9, 4, 10, 11, 12, 13, 14, 15, 16, 17, 18, 19, 20, 21, 22, 23, 24, 25, 26, 27, 28] (by decide +kernel) (by decide +kernel)
set_option maxRecDepth 20000 in
theorem gX3_gapAt_X3_toldAt : GoodIn wsX3_gapAt (wsV RX3 50 RX3 yX3_toldAt wsX3_toldAt) := goodIn_app (goodIn_of _ (by decide +kernel)) ggX3_gapAt_X3_toldAt
theorem dX3_gapAt_0 : decode cX3_gapAt 0 = .ok (.aload_n 0, 1) := by decide +kernel
theorem dX3_gapAt_1 : decode cX3_gapAt 1 = .ok (.iconst 0, 1) := by decide +kernel
theorem dX3_gapAt_2 : decode cX3_gapAt 2 = .ok (.iload_n 1, 1) := by decide +kernel
theorem dX3_gapAt_3 : decode cX3_gapAt 3 = .ok (.invokevirtual 50, 3) := by decide +kernel
theorem dX3_gapAt_6 : decode cX3_gapAt 6 = .ok (.aload_n 0, 1) := by decide +kernel
theorem dX3_gapAt_7 : decode cX3_gapAt 7 = .ok (.iconst 1, 1) := by decide +kernel
theorem dX3_gapAt_8 : decode cX3_gapAt 8 = .ok (.iload_n 1, 1) := by decide +kernel
theorem dX3_gapAt_9 : decode cX3_gapAt 9 = .ok (.invokevirtual 50, 3) := by decide +kernel
theorem dX3_gapAt_12 : decode cX3_gapAt 12 = .ok (.isub, 1) := by decide +kernel
theorem dX3_gapAt_13 : decode cX3_gapAt 13 = .ok (.ireturn, 1) := by decide +kernel
set_option maxRecDepth 20000 in
theorem ggX3_copyFrom_X0_copyFrom : GoodIn wsX3_copyFrom wsX0_copyFrom := goodIn_r _ [9, 10, 11, 12, 13, 14, 15, 16, 17, 18, 23] (by decide +kernel) (by decide +kernel)
set_option maxRecDepth 20000 in
theorem gX3_copyFrom_X0_copyFrom : GoodIn wsX3_copyFrom (wsV RX3 53 RX0 yX0_copyFrom wsX0_copyFrom) := goodIn_app (goodIn_of _ (by decide +kernel)) ggX3_copyFrom_X0_copyFrom
theorem dX3_copyFrom_0 : decode cX3_copyFrom 0 = .ok (.aload_n 1, 1) := by decide +kernel
theorem dX3_copyFrom_1 : decode cX3_copyFrom 1 = .ok (.ifnull 47, 3) := by decide +kernel
theorem dX3_copyFrom_4 : decode cX3_copyFrom 4 = .ok (.aload_n 0, 1) := by decide +kernel
theorem dX3_copyFrom_5 : decode cX3_copyFrom 5 = .ok (.getfield 14, 3) := by decide +kernel
theorem dX3_copyFrom_8 : decode cX3_copyFrom 8 = .ok (.aload_n 1, 1) := by decide +kernel
theorem dX3_copyFrom_9 : decode cX3_copyFrom 9 = .ok (.getfield 14, 3) := by decide +kernel
theorem dX3_copyFrom_12 : decode cX3_copyFrom 12 = .ok (.invokevirtual 53, 3) := by decide +kernel
theorem dX3_copyFrom_15 : decode cX3_copyFrom 15 = .ok (.aload_n 0, 1) := by decide +kernel
theorem dX3_copyFrom_16 : decode cX3_copyFrom 16 = .ok (.getfield 20, 3) := by decide +kernel
theorem dX3_copyFrom_19 : decode cX3_copyFrom 19 = .ok (.aload_n 1, 1) := by decide +kernel
theorem dX3_copyFrom_20 : decode cX3_copyFrom 20 = .ok (.getfield 20, 3) := by decide +kernel
theorem dX3_copyFrom_23 : decode cX3_copyFrom 23 = .ok (.invokevirtual 53, 3) := by decide +kernel
theorem dX3_copyFrom_26 : decode cX3_copyFrom 26 = .ok (.aload_n 0, 1) := by decide +kernel
theorem dX3_copyFrom_27 : decode cX3_copyFrom 27 = .ok (.getfield 23, 3) := by decide +kernel
theorem dX3_copyFrom_30 : decode cX3_copyFrom 30 = .ok (.aload_n 1, 1) := by decide +kernel
theorem dX3_copyFrom_31 : decode cX3_copyFrom 31 = .ok (.getfield 23, 3) := by decide +kernel
theorem dX3_copyFrom_34 : decode cX3_copyFrom 34 = .ok (.invokevirtual 53, 3) := by decide +kernel
theorem dX3_copyFrom_37 : decode cX3_copyFrom 37 = .ok (.aload_n 0, 1) := by decide +kernel
theorem dX3_copyFrom_38 : decode cX3_copyFrom 38 = .ok (.getfield 26, 3) := by decide +kernel
theorem dX3_copyFrom_41 : decode cX3_copyFrom 41 = .ok (.aload_n 1, 1) := by decide +kernel
theorem dX3_copyFrom_42 : decode cX3_copyFrom 42 = .ok (.getfield 26, 3) := by decide +kernel
theorem dX3_copyFrom_45 : decode cX3_copyFrom 45 = .ok (.invokevirtual 53, 3) := by decide +kernel
theorem dX3_copyFrom_48 : decode cX3_copyFrom 48 = .ok (.return_, 1) := by decide +kernel
set_option maxRecDepth 20000 in
theorem ggX4_init_X0_init : GoodIn wsX4_init wsX0_init := goodIn_r _ [16, 17, 2, 3, 18, 19, 20, 21, 22, 23, 24] (by decide +kernel) (by decide +kernel)
set_option maxRecDepth 20000 in
theorem gX4_init_X0_init : GoodIn wsX4_init (wsX0_init) := ggX4_init_X0_init
theorem dX4_init_0 : decode cX4_init 0 = .ok (.aload_n 0, 1) := by decide +kernel
theorem dX4_init_1 : decode cX4_init 1 = .ok (.invokespecial 3, 3) := by decide +kernel
theorem dX4_init_4 : decode cX4_init 4 = .ok (.aload_n 0, 1) := by decide +kernel
theorem dX4_init_5 : decode cX4_init 5 = .ok (.new 9, 3) := by decide +kernel
theorem dX4_init_8 : decode cX4_init 8 = .ok (.dup, 1) := by decide +kernel
theorem dX4_init_9 : decode cX4_init 9 = .ok (.bipush 12, 2) := by decide +kernel
theorem dX4_init_11 : decode cX4_init 11 = .ok (.invokespecial 11, 3) := by decide +kernel
theorem dX4_init_14 : decode cX4_init 14 = .ok (.putfield 14, 3) := by decide +kernel
theorem dX4_init_17 : decode cX4_init 17 = .ok (.aload_n 0, 1) := by decide +kernel
theorem dX4_init_18 : decode cX4_init 18 = .ok (.new 9, 3) := by decide +kernel
theorem dX4_init_21 : decode cX4_init 21 = .ok (.dup, 1) := by decide +kernel
theorem dX4_init_22 : decode cX4_init 22 = .ok (.bipush 72, 2) := by decide +kernel
theorem dX4_init_24 : decode cX4_init 24 = .ok (.invokespecial 11, 3) := by decide +kernel
theorem dX4_init_27 : decode cX4_init 27 = .ok (.putfield 20, 3) := by decide +kernel
theorem dX4_init_30 : decode cX4_init 30 = .ok (.aload_n 0, 1) := by decide +kernel
theorem dX4_init_31 : decode cX4_init 31 = .ok (.new 9, 3) := by decide +kernel
theorem dX4_init_34 : decode cX4_init 34 = .ok (.dup, 1) := by decide +kernel
theorem dX4_init_35 : decode cX4_init 35 = .ok (.bipush 12, 2) := by decide +kernel
theorem dX4_init_37 : decode cX4_init 37 = .ok (.invokespecial 11, 3) := by decide +kernel
theorem dX4_init_40 : decode cX4_init 40 = .ok (.putfield 23, 3) := by decide +kernel
theorem dX4_init_43 : decode cX4_init 43 = .ok (.aload_n 0, 1) := by decide +kernel
theorem dX4_init_44 : decode cX4_init 44 = .ok (.new 9, 3) := by decide +kernel
theorem dX4_init_47 : decode cX4_init 47 = .ok (.dup, 1) := by decide +kernel
theorem dX4_init_48 : decode cX4_init 48 = .ok (.bipush 12, 2) := by decide +kernel
theorem dX4_init_50 : decode cX4_init 50 = .ok (.invokespecial 11, 3) := by decide +kernel
theorem dX4_init_53 : decode cX4_init 53 = .ok (.putfield 26, 3) := by decide +kernel
theorem dX4_init_56 : decode cX4_init 56 = .ok (.aload_n 0, 1) := by decide +kernel
theorem dX4_init_57 : decode cX4_init 57 = .ok (.new 9, 3) := by decide +kernel
theorem dX4_init_60 : decode cX4_init 60 = .ok (.dup, 1) := by decide +kernel
theorem dX4_init_61 : decode cX4_init 61 = .ok (.bipush 12, 2) := by decide +kernel
theorem dX4_init_63 : decode cX4_init 63 = .ok (.invokespecial 11, 3) := by decide +kernel
theorem dX4_init_66 : decode cX4_init 66 = .ok (.putfield 29, 3) := by decide +kernel
theorem dX4_init_69 : decode cX4_init 69 = .ok (.aload_n 0, 1) := by decide +kernel
theorem dX4_init_70 : decode cX4_init 70 = .ok (.new 9, 3) := by decide +kernel
theorem dX4_init_73 : decode cX4_init 73 = .ok (.dup, 1) := by decide +kernel
theorem dX4_init_74 : decode cX4_init 74 = .ok (.bipush 24, 2) := by decide +kernel
theorem dX4_init_76 : decode cX4_init 76 = .ok (.invokespecial 11, 3) := by decide +kernel
theorem dX4_init_79 : decode cX4_init 79 = .ok (.putfield 32, 3) := by decide +kernel
theorem dX4_init_82 : decode cX4_init 82 = .ok (.aload_n 0, 1) := by decide +kernel
theorem dX4_init_83 : decode cX4_init 83 = .ok (.new 9, 3) := by decide +kernel
theorem dX4_init_86 : decode cX4_init 86 = .ok (.dup, 1) := by decide +kernel
theorem dX4_init_87 : decode cX4_init 87 = .ok (.iconst 2, 1) := by decide +kernel
theorem dX4_init_88 : decode cX4_init 88 = .ok (.invokespecial 11, 3) := by decide +kernel
theorem dX4_init_91 : decode cX4_init 91 = .ok (.putfield 35, 3) := by decide +kernel
theorem dX4_init_94 : decode cX4_init 94 = .ok (.return_, 1) := by decide +kernel
set_option maxRecDepth 20000 in
theorem ggX4_startWord_X0_set : GoodIn wsX4_startWord wsX0_set := goodIn_r _ [9, 10, 30] (by decide +kernel) (by decide +kernel)
set_option maxRecDepth 20000 in
theorem gX4_startWord_X0_set : GoodIn wsX4_startWord (wsV RX4 42 RX0 yX0_set wsX0_set) := goodIn_app (goodIn_of _ (by decide +kernel)) ggX4_startWord_X0_set
set_option maxRecDepth 20000 in
theorem ggX4_startWord_X4_addLast : GoodIn wsX4_startWord wsX4_addLast := goodIn_r _ [15, 16, 17, 18, 19, 20, 8, 21, 10, 5, 6, 7, 9, 22, 23, 24, 25, 26, 27, 28, 29, 30] (by decide +kernel) (by decide +kernel)
set_option maxRecDepth 20000 in
theorem gX4_startWord_X4_addLast : GoodIn wsX4_startWord (wsV RX4 46 RX4 yX4_addLast wsX4_addLast) := goodIn_app (goodIn_of _ (by decide +kernel)) ggX4_startWord_X4_addLast
theorem dX4_startWord_0 : decode cX4_startWord 0 = .ok (.aload_n 0, 1) := by decide +kernel
theorem dX4_startWord_1 : decode cX4_startWord 1 = .ok (.getfield 38, 3) := by decide +kernel
theorem dX4_startWord_4 : decode cX4_startWord 4 = .ok (.istore_n 2, 1) := by decide +kernel
theorem dX4_startWord_5 : decode cX4_startWord 5 = .ok (.iload_n 2, 1) := by decide +kernel
theorem dX4_startWord_6 : decode cX4_startWord 6 = .ok (.bipush 12, 2) := by decide +kernel
theorem dX4_startWord_8 : decode cX4_startWord 8 = .ok (.if_icmp .lt 4, 3) := by decide +kernel
theorem dX4_startWord_11 : decode cX4_startWord 11 = .ok (.return_, 1) := by decide +kernel
theorem dX4_startWord_12 : decode cX4_startWord 12 = .ok (.aload_n 0, 1) := by decide +kernel
theorem dX4_startWord_13 : decode cX4_startWord 13 = .ok (.getfield 14, 3) := by decide +kernel
theorem dX4_startWord_16 : decode cX4_startWord 16 = .ok (.iload_n 2, 1) := by decide +kernel
theorem dX4_startWord_17 : decode cX4_startWord 17 = .ok (.iconst 0, 1) := by decide +kernel
theorem dX4_startWord_18 : decode cX4_startWord 18 = .ok (.invokevirtual 42, 3) := by decide +kernel
theorem dX4_startWord_21 : decode cX4_startWord 21 = .ok (.aload_n 0, 1) := by decide +kernel
theorem dX4_startWord_22 : decode cX4_startWord 22 = .ok (.getfield 23, 3) := by decide +kernel
theorem dX4_startWord_25 : decode cX4_startWord 25 = .ok (.iload_n 2, 1) := by decide +kernel
theorem dX4_startWord_26 : decode cX4_startWord 26 = .ok (.sipush (-1006), 3) := by decide +kernel
theorem dX4_startWord_29 : decode cX4_startWord 29 = .ok (.invokevirtual 42, 3) := by decide +kernel
theorem dX4_startWord_32 : decode cX4_startWord 32 = .ok (.aload_n 0, 1) := by decide +kernel
theorem dX4_startWord_33 : decode cX4_startWord 33 = .ok (.getfield 26, 3) := by decide +kernel
theorem dX4_startWord_36 : decode cX4_startWord 36 = .ok (.iload_n 2, 1) := by decide +kernel
theorem dX4_startWord_37 : decode cX4_startWord 37 = .ok (.sipush (-1006), 3) := by decide +kernel
theorem dX4_startWord_40 : decode cX4_startWord 40 = .ok (.invokevirtual 42, 3) := by decide +kernel
theorem dX4_startWord_43 : decode cX4_startWord 43 = .ok (.aload_n 0, 1) := by decide +kernel
theorem dX4_startWord_44 : decode cX4_startWord 44 = .ok (.iload_n 1, 1) := by decide +kernel
theorem dX4_startWord_45 : decode cX4_startWord 45 = .ok (.iload_n 2, 1) := by decide +kernel
theorem dX4_startWord_46 : decode cX4_startWord 46 = .ok (.invokevirtual 46, 3) := by decide +kernel
theorem dX4_startWord_49 : decode cX4_startWord 49 = .ok (.aload_n 0, 1) := by decide +kernel
theorem dX4_startWord_50 : decode cX4_startWord 50 = .ok (.dup, 1) := by decide +kernel
theorem dX4_startWord_51 : decode cX4_startWord 51 = .ok (.getfield 38, 3) := by decide +kernel
theorem dX4_startWord_54 : decode cX4_startWord 54 = .ok (.iconst 1, 1) := by decide +kernel
theorem dX4_startWord_55 : decode cX4_startWord 55 = .ok (.iadd, 1) := by decide +kernel
theorem dX4_startWord_56 : decode cX4_startWord 56 = .ok (.putfield 38, 3) := by decide +kernel
theorem dX4_startWord_59 : decode cX4_startWord 59 = .ok (.return_, 1) := by decide +kernel
set_option maxRecDepth 20000 in
theorem ggX4_addLetter_X0_get : GoodIn wsX4_addLetter wsX0_get := goodIn_r _ [8, 9, 26] (by decide +kernel) (by decide +kernel)
set_option maxRecDepth 20000 in
theorem gX4_addLetter_X0_get : GoodIn wsX4_addLetter (wsV RX4 49 RX0 yX0_get wsX0_get) := goodIn_app (goodIn_of _ (by decide +kernel)) ggX4_addLetter_X0_get
set_option maxRecDepth 20000 in
theorem ggX4_addLetter_X0_set : GoodIn wsX4_addLetter wsX0_set := goodIn_r _ [13, 9, 26] (by decide +kernel) (by decide +kernel)
set_option maxRecDepth 20000 in
theorem gX4_addLetter_X0_set : GoodIn wsX4_addLetter (wsV RX4 42 RX0 yX0_set wsX0_set) := goodIn_app (goodIn_of _ (by decide +kernel)) ggX4_addLetter_X0_set
set_option maxRecDepth 20000 in
theorem ggX4_addLetter_X0_add : GoodIn wsX4_addLetter wsX0_add := goodIn_r _ [17, 9, 26] (by decide +kernel) (by decide +kernel)
set_option maxRecDepth 20000 in
theorem gX4_addLetter_X0_add : GoodIn wsX4_addLetter (wsV RX4 53 RX0 yX0_add wsX0_add) := goodIn_app (goodIn_of _ (by decide +kernel)) ggX4_addLetter_X0_add
theorem dX4_addLetter_0 : decode cX4_addLetter 0 = .ok (.aload_n 0, 1) := by decide +kernel
theorem dX4_addLetter_1 : decode cX4_addLetter 1 = .ok (.getfield 38, 3) := by decide +kernel
theorem dX4_addLetter_4 : decode cX4_addLetter 4 = .ok (.iconst 1, 1) := by decide +kernel
theorem dX4_addLetter_5 : decode cX4_addLetter 5 = .ok (.isub, 1) := by decide +kernel
theorem dX4_addLetter_6 : decode cX4_addLetter 6 = .ok (.istore_n 2, 1) := by decide +kernel
theorem dX4_addLetter_7 : decode cX4_addLetter 7 = .ok (.aload_n 0, 1) := by decide +kernel
theorem dX4_addLetter_8 : decode cX4_addLetter 8 = .ok (.getfield 14, 3) := by decide +kernel
theorem dX4_addLetter_11 : decode cX4_addLetter 11 = .ok (.iload_n 2, 1) := by decide +kernel
theorem dX4_addLetter_12 : decode cX4_addLetter 12 = .ok (.invokevirtual 49, 3) := by decide +kernel
theorem dX4_addLetter_15 : decode cX4_addLetter 15 = .ok (.istore_n 3, 1) := by decide +kernel
theorem dX4_addLetter_16 : decode cX4_addLetter 16 = .ok (.iload_n 3, 1) := by decide +kernel
theorem dX4_addLetter_17 : decode cX4_addLetter 17 = .ok (.bipush 6, 2) := by decide +kernel
theorem dX4_addLetter_19 : decode cX4_addLetter 19 = .ok (.if_icmp .ge 26, 3) := by decide +kernel
theorem dX4_addLetter_22 : decode cX4_addLetter 22 = .ok (.aload_n 0, 1) := by decide +kernel
theorem dX4_addLetter_23 : decode cX4_addLetter 23 = .ok (.getfield 20, 3) := by decide +kernel
theorem dX4_addLetter_26 : decode cX4_addLetter 26 = .ok (.iload_n 2, 1) := by decide +kernel
theorem dX4_addLetter_27 : decode cX4_addLetter 27 = .ok (.bipush 6, 2) := by decide +kernel
theorem dX4_addLetter_29 : decode cX4_addLetter 29 = .ok (.imul, 1) := by decide +kernel
theorem dX4_addLetter_30 : decode cX4_addLetter 30 = .ok (.iload_n 3, 1) := by decide +kernel
theorem dX4_addLetter_31 : decode cX4_addLetter 31 = .ok (.iadd, 1) := by decide +kernel
theorem dX4_addLetter_32 : decode cX4_addLetter 32 = .ok (.iload_n 1, 1) := by decide +kernel
theorem dX4_addLetter_33 : decode cX4_addLetter 33 = .ok (.invokevirtual 42, 3) := by decide +kernel
theorem dX4_addLetter_36 : decode cX4_addLetter 36 = .ok (.aload_n 0, 1) := by decide +kernel
theorem dX4_addLetter_37 : decode cX4_addLetter 37 = .ok (.getfield 14, 3) := by decide +kernel
theorem dX4_addLetter_40 : decode cX4_addLetter 40 = .ok (.iload_n 2, 1) := by decide +kernel
theorem dX4_addLetter_41 : decode cX4_addLetter 41 = .ok (.iconst 1, 1) := by decide +kernel
theorem dX4_addLetter_42 : decode cX4_addLetter 42 = .ok (.invokevirtual 53, 3) := by decide +kernel
theorem dX4_addLetter_45 : decode cX4_addLetter 45 = .ok (.return_, 1) := by decide +kernel
set_option maxRecDepth 20000 in
theorem ggX4_letterOf_X0_get : GoodIn wsX4_letterOf wsX0_get := goodIn_r _ [7, 8, 17] (by decide +kernel) (by decide +kernel)
set_option maxRecDepth 20000 in
theorem gX4_letterOf_X0_get : GoodIn wsX4_letterOf (wsV RX4 49 RX0 yX0_get wsX0_get) := goodIn_app (goodIn_of _ (by decide +kernel)) ggX4_letterOf_X0_get
theorem dX4_letterOf_0 : decode cX4_letterOf 0 = .ok (.iload_n 2, 1) := by decide +kernel
theorem dX4_letterOf_1 : decode cX4_letterOf 1 = .ok (.ifCond .lt 19, 3) := by decide +kernel
theorem dX4_letterOf_4 : decode cX4_letterOf 4 = .ok (.iload_n 2, 1) := by decide +kernel
theorem dX4_letterOf_5 : decode cX4_letterOf 5 = .ok (.aload_n 0, 1) := by decide +kernel
theorem dX4_letterOf_6 : decode cX4_letterOf 6 = .ok (.getfield 14, 3) := by decide +kernel
theorem dX4_letterOf_9 : decode cX4_letterOf 9 = .ok (.iload_n 1, 1) := by decide +kernel
theorem dX4_letterOf_10 : decode cX4_letterOf 10 = .ok (.invokevirtual 49, 3) := by decide +kernel
theorem dX4_letterOf_13 : decode cX4_letterOf 13 = .ok (.if_icmp .ge 7, 3) := by decide +kernel
theorem dX4_letterOf_16 : decode cX4_letterOf 16 = .ok (.iconst 1, 1) := by decide +kernel
theorem dX4_letterOf_17 : decode cX4_letterOf 17 = .ok (.goto 4, 3) := by decide +kernel
theorem dX4_letterOf_20 : decode cX4_letterOf 20 = .ok (.iconst 0, 1) := by decide +kernel
theorem dX4_letterOf_21 : decode cX4_letterOf 21 = .ok (.istore_n 3, 1) := by decide +kernel
theorem dX4_letterOf_22 : decode cX4_letterOf 22 = .ok (.iload_n 3, 1) := by decide +kernel
theorem dX4_letterOf_23 : decode cX4_letterOf 23 = .ok (.ifCond .eq 19, 3) := by decide +kernel
theorem dX4_letterOf_26 : decode cX4_letterOf 26 = .ok (.aload_n 0, 1) := by decide +kernel
theorem dX4_letterOf_27 : decode cX4_letterOf 27 = .ok (.getfield 20, 3) := by decide +kernel
theorem dX4_letterOf_30 : decode cX4_letterOf 30 = .ok (.iload_n 1, 1) := by decide +kernel
theorem dX4_letterOf_31 : decode cX4_letterOf 31 = .ok (.bipush 6, 2) := by decide +kernel
theorem dX4_letterOf_33 : decode cX4_letterOf 33 = .ok (.imul, 1) := by decide +kernel
theorem dX4_letterOf_34 : decode cX4_letterOf 34 = .ok (.iload_n 2, 1) := by decide +kernel
theorem dX4_letterOf_35 : decode cX4_letterOf 35 = .ok (.iadd, 1) := by decide +kernel
theorem dX4_letterOf_36 : decode cX4_letterOf 36 = .ok (.invokevirtual 49, 3) := by decide +kernel
theorem dX4_letterOf_39 : decode cX4_letterOf 39 = .ok (.goto 6, 3) := by decide +kernel
theorem dX4_letterOf_42 : decode cX4_letterOf 42 = .ok (.sipush (-1006), 3) := by decide +kernel
theorem dX4_letterOf_45 : decode cX4_letterOf 45 = .ok (.ireturn, 1) := by decide +kernel
set_option maxRecDepth 20000 in
theorem ggX4_hasPassed_X0_get : GoodIn wsX4_hasPassed wsX0_get := goodIn_r _ [6, 7, 16] (by decide +kernel) (by decide +kernel)
set_option maxRecDepth 20000 in
theorem gX4_hasPassed_X0_get : GoodIn wsX4_hasPassed (wsV RX4 49 RX0 yX0_get wsX0_get) := goodIn_app (goodIn_of _ (by decide +kernel)) ggX4_hasPassed_X0_get
theorem dX4_hasPassed_0 : decode cX4_hasPassed 0 = .ok (.aload_n 0, 1) := by decide +kernel
theorem dX4_hasPassed_1 : decode cX4_hasPassed 1 = .ok (.getfield 23, 3) := by decide +kernel
theorem dX4_hasPassed_4 : decode cX4_hasPassed 4 = .ok (.iload_n 1, 1) := by decide +kernel
theorem dX4_hasPassed_5 : decode cX4_hasPassed 5 = .ok (.invokevirtual 49, 3) := by decide +kernel
theorem dX4_hasPassed_8 : decode cX4_hasPassed 8 = .ok (.sipush (-1006), 3) := by decide +kernel
theorem dX4_hasPassed_11 : decode cX4_hasPassed 11 = .ok (.if_icmp .eq 7, 3) := by decide +kernel
theorem dX4_hasPassed_14 : decode cX4_hasPassed 14 = .ok (.iconst 1, 1) := by decide +kernel
theorem dX4_hasPassed_15 : decode cX4_hasPassed 15 = .ok (.goto 4, 3) := by decide +kernel
theorem dX4_hasPassed_18 : decode cX4_hasPassed 18 = .ok (.iconst 0, 1) := by decide +kernel
theorem dX4_hasPassed_19 : decode cX4_hasPassed 19 = .ok (.ireturn, 1) := by decide +kernel
set_option maxRecDepth 20000 in
theorem ggX4_markPassed_X0_set : GoodIn wsX4_markPassed wsX0_set := goodIn_r _ [7, 8, 17] (by decide +kernel) (by decide +kernel)
set_option maxRecDepth 20000 in
theorem gX4_markPassed_X0_set : GoodIn wsX4_markPassed (wsV RX4 42 RX0 yX0_set wsX0_set) := goodIn_app (goodIn_of _ (by decide +kernel)) ggX4_markPassed_X0_set
theorem dX4_markPassed_0 : decode cX4_markPassed 0 = .ok (.aload_n 0, 1) := by decide +kernel
theorem dX4_markPassed_1 : decode cX4_markPassed 1 = .ok (.getfield 23, 3) := by decide +kernel
theorem dX4_markPassed_4 : decode cX4_markPassed 4 = .ok (.iload_n 1, 1) := by decide +kernel
theorem dX4_markPassed_5 : decode cX4_markPassed 5 = .ok (.iload_n 2, 1) := by decide +kernel
theorem dX4_markPassed_6 : decode cX4_markPassed 6 = .ok (.invokevirtual 42, 3) := by decide +kernel
theorem dX4_markPassed_9 : decode cX4_markPassed 9 = .ok (.aload_n 0, 1) := by decide +kernel
theorem dX4_markPassed_10 : decode cX4_markPassed 10 = .ok (.getfield 26, 3) := by decide +kernel
theorem dX4_markPassed_13 : decode cX4_markPassed 13 = .ok (.iload_n 1, 1) := by decide +kernel
theorem dX4_markPassed_14 : decode cX4_markPassed 14 = .ok (.iload_n 3, 1) := by decide +kernel
theorem dX4_markPassed_15 : decode cX4_markPassed 15 = .ok (.invokevirtual 42, 3) := by decide +kernel
theorem dX4_markPassed_18 : decode cX4_markPassed 18 = .ok (.return_, 1) := by decide +kernel
set_option maxRecDepth 20000 in
theorem ggX4_wordAt_X0_get : GoodIn wsX4_wordAt wsX0_get := goodIn_r _ [6, 7, 16] (by decide +kernel) (by decide +kernel)
set_option maxRecDepth 20000 in
theorem gX4_wordAt_X0_get : GoodIn wsX4_wordAt (wsV RX4 49 RX0 yX0_get wsX0_get) := goodIn_app (goodIn_of _ (by decide +kernel)) ggX4_wordAt_X0_get
theorem dX4_wordAt_0 : decode cX4_wordAt 0 = .ok (.aload_n 0, 1) := by decide +kernel
theorem dX4_wordAt_1 : decode cX4_wordAt 1 = .ok (.getfield 32, 3) := by decide +kernel
theorem dX4_wordAt_4 : decode cX4_wordAt 4 = .ok (.iload_n 1, 1) := by decide +kernel
theorem dX4_wordAt_5 : decode cX4_wordAt 5 = .ok (.bipush 12, 2) := by decide +kernel
theorem dX4_wordAt_7 : decode cX4_wordAt 7 = .ok (.imul, 1) := by decide +kernel
theorem dX4_wordAt_8 : decode cX4_wordAt 8 = .ok (.iload_n 2, 1) := by decide +kernel
theorem dX4_wordAt_9 : decode cX4_wordAt 9 = .ok (.iadd, 1) := by decide +kernel
theorem dX4_wordAt_10 : decode cX4_wordAt 10 = .ok (.invokevirtual 49, 3) := by decide +kernel
theorem dX4_wordAt_13 : decode cX4_wordAt 13 = .ok (.ireturn, 1) := by decide +kernel
set_option maxRecDepth 20000 in
theorem ggX4_placeIn_X0_get : GoodIn wsX4_placeIn wsX0_get := goodIn_r _ [6, 7, 22] (by decide +kernel) (by decide +kernel)
set_option maxRecDepth 20000 in
theorem gX4_placeIn_X0_get : GoodIn wsX4_placeIn (wsV RX4 49 RX0 yX0_get wsX0_get) := goodIn_app (goodIn_of _ (by decide +kernel)) ggX4_placeIn_X0_get
set_option maxRecDepth 20000 in
theorem ggX4_placeIn_X4_wordAt : GoodIn wsX4_placeIn wsX4_wordAt := goodIn_r _ [12, 13, 2, 3, 4, 5, 6, 7, 14, 15, 16, 17, 18, 19, 20, 21, 22] (by decide +kernel) (by decide +kernel)
set_option maxRecDepth 20000 in
theorem gX4_placeIn_X4_wordAt : GoodIn wsX4_placeIn (wsV RX4 56 RX4 yX4_wordAt wsX4_wordAt) := goodIn_app (goodIn_of _ (by decide +kernel)) ggX4_placeIn_X4_wordAt
theorem dX4_placeIn_0 : decode cX4_placeIn 0 = .ok (.aload_n 0, 1) := by decide +kernel
theorem dX4_placeIn_1 : decode cX4_placeIn 1 = .ok (.getfield 35, 3) := by decide +kernel
theorem dX4_placeIn_4 : decode cX4_placeIn 4 = .ok (.iload_n 1, 1) := by decide +kernel
theorem dX4_placeIn_5 : decode cX4_placeIn 5 = .ok (.invokevirtual 49, 3) := by decide +kernel
theorem dX4_placeIn_8 : decode cX4_placeIn 8 = .ok (.istore_n 3, 1) := by decide +kernel
theorem dX4_placeIn_9 : decode cX4_placeIn 9 = .ok (.iconst 0, 1) := by decide +kernel
theorem dX4_placeIn_10 : decode cX4_placeIn 10 = .ok (.istore 4, 2) := by decide +kernel
theorem dX4_placeIn_12 : decode cX4_placeIn 12 = .ok (.iload 4, 2) := by decide +kernel
theorem dX4_placeIn_14 : decode cX4_placeIn 14 = .ok (.iload_n 3, 1) := by decide +kernel
theorem dX4_placeIn_15 : decode cX4_placeIn 15 = .ok (.if_icmp .ge 23, 3) := by decide +kernel
theorem dX4_placeIn_18 : decode cX4_placeIn 18 = .ok (.aload_n 0, 1) := by decide +kernel
theorem dX4_placeIn_19 : decode cX4_placeIn 19 = .ok (.iload_n 1, 1) := by decide +kernel
theorem dX4_placeIn_20 : decode cX4_placeIn 20 = .ok (.iload 4, 2) := by decide +kernel
theorem dX4_placeIn_22 : decode cX4_placeIn 22 = .ok (.invokevirtual 56, 3) := by decide +kernel
theorem dX4_placeIn_25 : decode cX4_placeIn 25 = .ok (.iload_n 2, 1) := by decide +kernel
theorem dX4_placeIn_26 : decode cX4_placeIn 26 = .ok (.if_icmp .ne 6, 3) := by decide +kernel
theorem dX4_placeIn_29 : decode cX4_placeIn 29 = .ok (.iload 4, 2) := by decide +kernel
theorem dX4_placeIn_31 : decode cX4_placeIn 31 = .ok (.ireturn, 1) := by decide +kernel
theorem dX4_placeIn_32 : decode cX4_placeIn 32 = .ok (.iinc 4 1, 3) := by decide +kernel
theorem dX4_placeIn_35 : decode cX4_placeIn 35 = .ok (.goto (-23), 3) := by decide +kernel
theorem dX4_placeIn_38 : decode cX4_placeIn 38 = .ok (.sipush (-1006), 3) := by decide +kernel
theorem dX4_placeIn_41 : decode cX4_placeIn 41 = .ok (.ireturn, 1) := by decide +kernel
set_option maxRecDepth 20000 in
theorem ggX4_placeOf_X4_placeIn : GoodIn wsX4_placeOf wsX4_placeIn := goodIn_r _ [5, 6, 7, 8, 9, 10, 11, 12, 13, 14, 15, 4, 16, 17, 18, 19, 20, 21, 22, 23, 24, 25, 26] (by decide +kernel) (by decide +kernel)
set_option maxRecDepth 20000 in
theorem gX4_placeOf_X4_placeIn : GoodIn wsX4_placeOf (wsV RX4 60 RX4 yX4_placeIn wsX4_placeIn) := goodIn_app (goodIn_of _ (by decide +kernel)) ggX4_placeOf_X4_placeIn
theorem dX4_placeOf_0 : decode cX4_placeOf 0 = .ok (.aload_n 0, 1) := by decide +kernel
theorem dX4_placeOf_1 : decode cX4_placeOf 1 = .ok (.iconst 0, 1) := by decide +kernel
theorem dX4_placeOf_2 : decode cX4_placeOf 2 = .ok (.iload_n 1, 1) := by decide +kernel
theorem dX4_placeOf_3 : decode cX4_placeOf 3 = .ok (.invokevirtual 60, 3) := by decide +kernel
theorem dX4_placeOf_6 : decode cX4_placeOf 6 = .ok (.istore_n 2, 1) := by decide +kernel
theorem dX4_placeOf_7 : decode cX4_placeOf 7 = .ok (.iload_n 2, 1) := by decide +kernel
theorem dX4_placeOf_8 : decode cX4_placeOf 8 = .ok (.sipush (-1006), 3) := by decide +kernel
theorem dX4_placeOf_11 : decode cX4_placeOf 11 = .ok (.if_icmp .eq 7, 3) := by decide +kernel
theorem dX4_placeOf_14 : decode cX4_placeOf 14 = .ok (.iload_n 2, 1) := by decide +kernel
theorem dX4_placeOf_15 : decode cX4_placeOf 15 = .ok (.goto 9, 3) := by decide +kernel
theorem dX4_placeOf_18 : decode cX4_placeOf 18 = .ok (.aload_n 0, 1) := by decide +kernel
theorem dX4_placeOf_19 : decode cX4_placeOf 19 = .ok (.iconst 1, 1) := by decide +kernel
theorem dX4_placeOf_20 : decode cX4_placeOf 20 = .ok (.iload_n 1, 1) := by decide +kernel
theorem dX4_placeOf_21 : decode cX4_placeOf 21 = .ok (.invokevirtual 60, 3) := by decide +kernel
theorem dX4_placeOf_24 : decode cX4_placeOf 24 = .ok (.ireturn, 1) := by decide +kernel
set_option maxRecDepth 20000 in
theorem ggX4_lettersInRow_X0_get : GoodIn wsX4_lettersInRow wsX0_get := goodIn_r _ [7, 8, 23] (by decide +kernel) (by decide +kernel)
set_option maxRecDepth 20000 in
theorem gX4_lettersInRow_X0_get : GoodIn wsX4_lettersInRow (wsV RX4 49 RX0 yX0_get wsX0_get) := goodIn_app (goodIn_of _ (by decide +kernel)) ggX4_lettersInRow_X0_get
set_option maxRecDepth 20000 in
theorem ggX4_lettersInRow_X4_wordAt : GoodIn wsX4_lettersInRow wsX4_wordAt := goodIn_r _ [13, 14, 3, 4, 5, 6, 7, 8, 15, 16, 17, 18, 19, 20, 21, 22, 23] (by decide +kernel) (by decide +kernel)
set_option maxRecDepth 20000 in
theorem gX4_lettersInRow_X4_wordAt : GoodIn wsX4_lettersInRow (wsV RX4 56 RX4 yX4_wordAt wsX4_wordAt) := goodIn_app (goodIn_of _ (by decide +kernel)) ggX4_lettersInRow_X4_wordAt
theorem dX4_lettersInRow_0 : decode cX4_lettersInRow 0 = .ok (.aload_n 0, 1) := by decide +kernel
theorem dX4_lettersInRow_1 : decode cX4_lettersInRow 1 = .ok (.getfield 35, 3) := by decide +kernel
theorem dX4_lettersInRow_4 : decode cX4_lettersInRow 4 = .ok (.iload_n 1, 1) := by decide +kernel
theorem dX4_lettersInRow_5 : decode cX4_lettersInRow 5 = .ok (.invokevirtual 49, 3) := by decide +kernel
theorem dX4_lettersInRow_8 : decode cX4_lettersInRow 8 = .ok (.istore_n 2, 1) := by decide +kernel
theorem dX4_lettersInRow_9 : decode cX4_lettersInRow 9 = .ok (.iconst 0, 1) := by decide +kernel
theorem dX4_lettersInRow_10 : decode cX4_lettersInRow 10 = .ok (.istore_n 3, 1) := by decide +kernel
theorem dX4_lettersInRow_11 : decode cX4_lettersInRow 11 = .ok (.iconst 0, 1) := by decide +kernel
theorem dX4_lettersInRow_12 : decode cX4_lettersInRow 12 = .ok (.istore 4, 2) := by decide +kernel
theorem dX4_lettersInRow_14 : decode cX4_lettersInRow 14 = .ok (.iload 4, 2) := by decide +kernel
theorem dX4_lettersInRow_16 : decode cX4_lettersInRow 16 = .ok (.iload_n 2, 1) := by decide +kernel
theorem dX4_lettersInRow_17 : decode cX4_lettersInRow 17 = .ok (.if_icmp .ge 26, 3) := by decide +kernel
theorem dX4_lettersInRow_20 : decode cX4_lettersInRow 20 = .ok (.iload_n 3, 1) := by decide +kernel
theorem dX4_lettersInRow_21 : decode cX4_lettersInRow 21 = .ok (.aload_n 0, 1) := by decide +kernel
theorem dX4_lettersInRow_22 : decode cX4_lettersInRow 22 = .ok (.getfield 14, 3) := by decide +kernel
theorem dX4_lettersInRow_25 : decode cX4_lettersInRow 25 = .ok (.aload_n 0, 1) := by decide +kernel
theorem dX4_lettersInRow_26 : decode cX4_lettersInRow 26 = .ok (.iload_n 1, 1) := by decide +kernel
theorem dX4_lettersInRow_27 : decode cX4_lettersInRow 27 = .ok (.iload 4, 2) := by decide +kernel
theorem dX4_lettersInRow_29 : decode cX4_lettersInRow 29 = .ok (.invokevirtual 56, 3) := by decide +kernel
theorem dX4_lettersInRow_32 : decode cX4_lettersInRow 32 = .ok (.invokevirtual 49, 3) := by decide +kernel
theorem dX4_lettersInRow_35 : decode cX4_lettersInRow 35 = .ok (.iadd, 1) := by decide +kernel
theorem dX4_lettersInRow_36 : decode cX4_lettersInRow 36 = .ok (.istore_n 3, 1) := by decide +kernel
theorem dX4_lettersInRow_37 : decode cX4_lettersInRow 37 = .ok (.iinc 4 1, 3) := by decide +kernel
theorem dX4_lettersInRow_40 : decode cX4_lettersInRow 40 = .ok (.goto (-26), 3) := by decide +kernel
theorem dX4_lettersInRow_43 : decode cX4_lettersInRow 43 = .ok (.iload_n 3, 1) := by decide +kernel
theorem dX4_lettersInRow_44 : decode cX4_lettersInRow 44 = .ok (.ireturn, 1) := by decide +kernel
set_option maxRecDepth 20000 in
theorem ggX4_waitingInRow_X0_get : GoodIn wsX4_waitingInRow wsX0_get := goodIn_r _ [6, 7, 27] (by decide +kernel) (by decide +kernel)
set_option maxRecDepth 20000 in
theorem gX4_waitingInRow_X0_get : GoodIn wsX4_waitingInRow (wsV RX4 49 RX0 yX0_get wsX0_get) := goodIn_app (goodIn_of _ (by decide +kernel)) ggX4_waitingInRow_X0_get
set_option maxRecDepth 20000 in
theorem ggX4_waitingInRow_X4_wordAt : GoodIn wsX4_waitingInRow wsX4_wordAt := goodIn_r _ [12, 13, 2, 3, 4, 5, 6, 7, 19, 20, 21, 22, 23, 24, 25, 26, 27] (by decide +kernel) (by decide +kernel)
set_option maxRecDepth 20000 in
theorem gX4_waitingInRow_X4_wordAt : GoodIn wsX4_waitingInRow (wsV RX4 56 RX4 yX4_wordAt wsX4_wordAt) := goodIn_app (goodIn_of _ (by decide +kernel)) ggX4_waitingInRow_X4_wordAt
set_option maxRecDepth 20000 in
theorem ggX4_waitingInRow_X4_hasPassed : GoodIn wsX4_waitingInRow wsX4_hasPassed := goodIn_r _ [17, 18, 2, 3, 4, 5, 6, 7, 19, 20, 21, 22, 23, 24, 25, 26, 27] (by decide +kernel) (by decide +kernel)
set_option maxRecDepth 20000 in
theorem gX4_waitingInRow_X4_hasPassed : GoodIn wsX4_waitingInRow (wsV RX4 63 RX4 yX4_hasPassed wsX4_hasPassed) := goodIn_app (goodIn_of _ (by decide +kernel)) ggX4_waitingInRow_X4_hasPassed
theorem dX4_waitingInRow_0 : decode cX4_waitingInRow 0 = .ok (.aload_n 0, 1) := by decide +kernel
theorem dX4_waitingInRow_1 : decode cX4_waitingInRow 1 = .ok (.getfield 35, 3) := by decide +kernel
theorem dX4_waitingInRow_4 : decode cX4_waitingInRow 4 = .ok (.iload_n 1, 1) := by decide +kernel
theorem dX4_waitingInRow_5 : decode cX4_waitingInRow 5 = .ok (.invokevirtual 49, 3) := by decide +kernel
theorem dX4_waitingInRow_8 : decode cX4_waitingInRow 8 = .ok (.istore_n 2, 1) := by decide +kernel
theorem dX4_waitingInRow_9 : decode cX4_waitingInRow 9 = .ok (.iconst 0, 1) := by decide +kernel
theorem dX4_waitingInRow_10 : decode cX4_waitingInRow 10 = .ok (.istore_n 3, 1) := by decide +kernel
theorem dX4_waitingInRow_11 : decode cX4_waitingInRow 11 = .ok (.iconst 0, 1) := by decide +kernel
theorem dX4_waitingInRow_12 : decode cX4_waitingInRow 12 = .ok (.istore 4, 2) := by decide +kernel
theorem dX4_waitingInRow_14 : decode cX4_waitingInRow 14 = .ok (.iload 4, 2) := by decide +kernel
theorem dX4_waitingInRow_16 : decode cX4_waitingInRow 16 = .ok (.iload_n 2, 1) := by decide +kernel
theorem dX4_waitingInRow_17 : decode cX4_waitingInRow 17 = .ok (.if_icmp .ge 31, 3) := by decide +kernel
theorem dX4_waitingInRow_20 : decode cX4_waitingInRow 20 = .ok (.iload_n 3, 1) := by decide +kernel
theorem dX4_waitingInRow_21 : decode cX4_waitingInRow 21 = .ok (.aload_n 0, 1) := by decide +kernel
theorem dX4_waitingInRow_22 : decode cX4_waitingInRow 22 = .ok (.aload_n 0, 1) := by decide +kernel
theorem dX4_waitingInRow_23 : decode cX4_waitingInRow 23 = .ok (.iload_n 1, 1) := by decide +kernel
theorem dX4_waitingInRow_24 : decode cX4_waitingInRow 24 = .ok (.iload 4, 2) := by decide +kernel
theorem dX4_waitingInRow_26 : decode cX4_waitingInRow 26 = .ok (.invokevirtual 56, 3) := by decide +kernel
theorem dX4_waitingInRow_29 : decode cX4_waitingInRow 29 = .ok (.invokevirtual 63, 3) := by decide +kernel
theorem dX4_waitingInRow_32 : decode cX4_waitingInRow 32 = .ok (.ifCond .eq 7, 3) := by decide +kernel
theorem dX4_waitingInRow_35 : decode cX4_waitingInRow 35 = .ok (.iconst 0, 1) := by decide +kernel
theorem dX4_waitingInRow_36 : decode cX4_waitingInRow 36 = .ok (.goto 4, 3) := by decide +kernel
theorem dX4_waitingInRow_39 : decode cX4_waitingInRow 39 = .ok (.iconst 1, 1) := by decide +kernel
theorem dX4_waitingInRow_40 : decode cX4_waitingInRow 40 = .ok (.iadd, 1) := by decide +kernel
theorem dX4_waitingInRow_41 : decode cX4_waitingInRow 41 = .ok (.istore_n 3, 1) := by decide +kernel
theorem dX4_waitingInRow_42 : decode cX4_waitingInRow 42 = .ok (.iinc 4 1, 3) := by decide +kernel
theorem dX4_waitingInRow_45 : decode cX4_waitingInRow 45 = .ok (.goto (-31), 3) := by decide +kernel
theorem dX4_waitingInRow_48 : decode cX4_waitingInRow 48 = .ok (.iload_n 3, 1) := by decide +kernel
theorem dX4_waitingInRow_49 : decode cX4_waitingInRow 49 = .ok (.ireturn, 1) := by decide +kernel
set_option maxRecDepth 20000 in
theorem ggX4_addLast_X0_get : GoodIn wsX4_addLast wsX0_get := goodIn_r _ [7, 8, 21] (by decide +kernel) (by decide +kernel)
set_option maxRecDepth 20000 in
theorem gX4_addLast_X0_get : GoodIn wsX4_addLast (wsV RX4 49 RX0 yX0_get wsX0_get) := goodIn_app (goodIn_of _ (by decide +kernel)) ggX4_addLast_X0_get
set_option maxRecDepth 20000 in
theorem ggX4_addLast_X0_set : GoodIn wsX4_addLast wsX0_set := goodIn_r _ [12, 8, 21] (by decide +kernel) (by decide +kernel)
set_option maxRecDepth 20000 in
theorem gX4_addLast_X0_set : GoodIn wsX4_addLast (wsV RX4 42 RX0 yX0_set wsX0_set) := goodIn_app (goodIn_of _ (by decide +kernel)) ggX4_addLast_X0_set
theorem dX4_addLast_0 : decode cX4_addLast 0 = .ok (.aload_n 0, 1) := by decide +kernel
theorem dX4_addLast_1 : decode cX4_addLast 1 = .ok (.getfield 35, 3) := by decide +kernel
theorem dX4_addLast_4 : decode cX4_addLast 4 = .ok (.iload_n 1, 1) := by decide +kernel
theorem dX4_addLast_5 : decode cX4_addLast 5 = .ok (.invokevirtual 49, 3) := by decide +kernel
theorem dX4_addLast_8 : decode cX4_addLast 8 = .ok (.istore_n 3, 1) := by decide +kernel
theorem dX4_addLast_9 : decode cX4_addLast 9 = .ok (.iload_n 3, 1) := by decide +kernel
theorem dX4_addLast_10 : decode cX4_addLast 10 = .ok (.bipush 12, 2) := by decide +kernel
theorem dX4_addLast_12 : decode cX4_addLast 12 = .ok (.if_icmp .ge 28, 3) := by decide +kernel
theorem dX4_addLast_15 : decode cX4_addLast 15 = .ok (.aload_n 0, 1) := by decide +kernel
theorem dX4_addLast_16 : decode cX4_addLast 16 = .ok (.getfield 32, 3) := by decide +kernel
theorem dX4_addLast_19 : decode cX4_addLast 19 = .ok (.iload_n 1, 1) := by decide +kernel
theorem dX4_addLast_20 : decode cX4_addLast 20 = .ok (.bipush 12, 2) := by decide +kernel
theorem dX4_addLast_22 : decode cX4_addLast 22 = .ok (.imul, 1) := by decide +kernel
theorem dX4_addLast_23 : decode cX4_addLast 23 = .ok (.iload_n 3, 1) := by decide +kernel
theorem dX4_addLast_24 : decode cX4_addLast 24 = .ok (.iadd, 1) := by decide +kernel
theorem dX4_addLast_25 : decode cX4_addLast 25 = .ok (.iload_n 2, 1) := by decide +kernel
theorem dX4_addLast_26 : decode cX4_addLast 26 = .ok (.invokevirtual 42, 3) := by decide +kernel
theorem dX4_addLast_29 : decode cX4_addLast 29 = .ok (.aload_n 0, 1) := by decide +kernel
theorem dX4_addLast_30 : decode cX4_addLast 30 = .ok (.getfield 35, 3) := by decide +kernel
theorem dX4_addLast_33 : decode cX4_addLast 33 = .ok (.iload_n 1, 1) := by decide +kernel
theorem dX4_addLast_34 : decode cX4_addLast 34 = .ok (.iload_n 3, 1) := by decide +kernel
theorem dX4_addLast_35 : decode cX4_addLast 35 = .ok (.iconst 1, 1) := by decide +kernel
theorem dX4_addLast_36 : decode cX4_addLast 36 = .ok (.iadd, 1) := by decide +kernel
theorem dX4_addLast_37 : decode cX4_addLast 37 = .ok (.invokevirtual 42, 3) := by decide +kernel
theorem dX4_addLast_40 : decode cX4_addLast 40 = .ok (.return_, 1) := by decide +kernel
set_option maxRecDepth 20000 in
theorem ggX4_addFirst_X0_get : GoodIn wsX4_addFirst wsX0_get := goodIn_r _ [7, 8, 21] (by decide +kernel) (by decide +kernel)
set_option maxRecDepth 20000 in
theorem gX4_addFirst_X0_get : GoodIn wsX4_addFirst (wsV RX4 49 RX0 yX0_get wsX0_get) := goodIn_app (goodIn_of _ (by decide +kernel)) ggX4_addFirst_X0_get
set_option maxRecDepth 20000 in
theorem ggX4_addFirst_X0_set : GoodIn wsX4_addFirst wsX0_set := goodIn_r _ [12, 8, 21] (by decide +kernel) (by decide +kernel)
set_option maxRecDepth 20000 in
theorem gX4_addFirst_X0_set : GoodIn wsX4_addFirst (wsV RX4 42 RX0 yX0_set wsX0_set) := goodIn_app (goodIn_of _ (by decide +kernel)) ggX4_addFirst_X0_set
theorem dX4_addFirst_0 : decode cX4_addFirst 0 = .ok (.iload_n 1, 1) := by decide +kernel
theorem dX4_addFirst_1 : decode cX4_addFirst 1 = .ok (.bipush 12, 2) := by decide +kernel
theorem dX4_addFirst_3 : decode cX4_addFirst 3 = .ok (.imul, 1) := by decide +kernel
theorem dX4_addFirst_4 : decode cX4_addFirst 4 = .ok (.istore_n 3, 1) := by decide +kernel
theorem dX4_addFirst_5 : decode cX4_addFirst 5 = .ok (.aload_n 0, 1) := by decide +kernel
theorem dX4_addFirst_6 : decode cX4_addFirst 6 = .ok (.getfield 35, 3) := by decide +kernel
theorem dX4_addFirst_9 : decode cX4_addFirst 9 = .ok (.iload_n 1, 1) := by decide +kernel
theorem dX4_addFirst_10 : decode cX4_addFirst 10 = .ok (.invokevirtual 49, 3) := by decide +kernel
theorem dX4_addFirst_13 : decode cX4_addFirst 13 = .ok (.istore 4, 2) := by decide +kernel
theorem dX4_addFirst_15 : decode cX4_addFirst 15 = .ok (.iload 4, 2) := by decide +kernel
theorem dX4_addFirst_17 : decode cX4_addFirst 17 = .ok (.bipush 12, 2) := by decide +kernel
theorem dX4_addFirst_19 : decode cX4_addFirst 19 = .ok (.if_icmp .ge 63, 3) := by decide +kernel
theorem dX4_addFirst_22 : decode cX4_addFirst 22 = .ok (.iload 4, 2) := by decide +kernel
theorem dX4_addFirst_24 : decode cX4_addFirst 24 = .ok (.istore 5, 2) := by decide +kernel
theorem dX4_addFirst_26 : decode cX4_addFirst 26 = .ok (.iload 5, 2) := by decide +kernel
theorem dX4_addFirst_28 : decode cX4_addFirst 28 = .ok (.ifCond .le 33, 3) := by decide +kernel
theorem dX4_addFirst_31 : decode cX4_addFirst 31 = .ok (.aload_n 0, 1) := by decide +kernel
theorem dX4_addFirst_32 : decode cX4_addFirst 32 = .ok (.getfield 32, 3) := by decide +kernel
theorem dX4_addFirst_35 : decode cX4_addFirst 35 = .ok (.iload_n 3, 1) := by decide +kernel
theorem dX4_addFirst_36 : decode cX4_addFirst 36 = .ok (.iload 5, 2) := by decide +kernel
theorem dX4_addFirst_38 : decode cX4_addFirst 38 = .ok (.iadd, 1) := by decide +kernel
theorem dX4_addFirst_39 : decode cX4_addFirst 39 = .ok (.aload_n 0, 1) := by decide +kernel
theorem dX4_addFirst_40 : decode cX4_addFirst 40 = .ok (.getfield 32, 3) := by decide +kernel
theorem dX4_addFirst_43 : decode cX4_addFirst 43 = .ok (.iload_n 3, 1) := by decide +kernel
theorem dX4_addFirst_44 : decode cX4_addFirst 44 = .ok (.iload 5, 2) := by decide +kernel
theorem dX4_addFirst_46 : decode cX4_addFirst 46 = .ok (.iadd, 1) := by decide +kernel
theorem dX4_addFirst_47 : decode cX4_addFirst 47 = .ok (.iconst 1, 1) := by decide +kernel
theorem dX4_addFirst_48 : decode cX4_addFirst 48 = .ok (.isub, 1) := by decide +kernel
theorem dX4_addFirst_49 : decode cX4_addFirst 49 = .ok (.invokevirtual 49, 3) := by decide +kernel
theorem dX4_addFirst_52 : decode cX4_addFirst 52 = .ok (.invokevirtual 42, 3) := by decide +kernel
theorem dX4_addFirst_55 : decode cX4_addFirst 55 = .ok (.iinc 5 (-1), 3) := by decide +kernel
theorem dX4_addFirst_58 : decode cX4_addFirst 58 = .ok (.goto (-32), 3) := by decide +kernel
theorem dX4_addFirst_61 : decode cX4_addFirst 61 = .ok (.aload_n 0, 1) := by decide +kernel
theorem dX4_addFirst_62 : decode cX4_addFirst 62 = .ok (.getfield 32, 3) := by decide +kernel
theorem dX4_addFirst_65 : decode cX4_addFirst 65 = .ok (.iload_n 3, 1) := by decide +kernel
theorem dX4_addFirst_66 : decode cX4_addFirst 66 = .ok (.iload_n 2, 1) := by decide +kernel
theorem dX4_addFirst_67 : decode cX4_addFirst 67 = .ok (.invokevirtual 42, 3) := by decide +kernel
theorem dX4_addFirst_70 : decode cX4_addFirst 70 = .ok (.aload_n 0, 1) := by decide +kernel
theorem dX4_addFirst_71 : decode cX4_addFirst 71 = .ok (.getfield 35, 3) := by decide +kernel
theorem dX4_addFirst_74 : decode cX4_addFirst 74 = .ok (.iload_n 1, 1) := by decide +kernel
theorem dX4_addFirst_75 : decode cX4_addFirst 75 = .ok (.iload 4, 2) := by decide +kernel
theorem dX4_addFirst_77 : decode cX4_addFirst 77 = .ok (.iconst 1, 1) := by decide +kernel
theorem dX4_addFirst_78 : decode cX4_addFirst 78 = .ok (.iadd, 1) := by decide +kernel
theorem dX4_addFirst_79 : decode cX4_addFirst 79 = .ok (.invokevirtual 42, 3) := by decide +kernel
theorem dX4_addFirst_82 : decode cX4_addFirst 82 = .ok (.return_, 1) := by decide +kernel
set_option maxRecDepth 20000 in
theorem ggX4_takeWaiting_X0_get : GoodIn wsX4_takeWaiting wsX0_get := goodIn_r _ [6, 7, 35] (by decide +kernel) (by decide +kernel)
set_option maxRecDepth 20000 in
theorem gX4_takeWaiting_X0_get : GoodIn wsX4_takeWaiting (wsV RX4 49 RX0 yX0_get wsX0_get) := goodIn_app (goodIn_of _ (by decide +kernel)) ggX4_takeWaiting_X0_get
set_option maxRecDepth 20000 in
theorem ggX4_takeWaiting_X4_wordAt : GoodIn wsX4_takeWaiting wsX4_wordAt := goodIn_r _ [12, 13, 2, 3, 4, 5, 6, 7, 27, 28, 29, 30, 31, 32, 33, 34, 35] (by decide +kernel) (by decide +kernel)
set_option maxRecDepth 20000 in
theorem gX4_takeWaiting_X4_wordAt : GoodIn wsX4_takeWaiting (wsV RX4 56 RX4 yX4_wordAt wsX4_wordAt) := goodIn_app (goodIn_of _ (by decide +kernel)) ggX4_takeWaiting_X4_wordAt
set_option maxRecDepth 20000 in
theorem ggX4_takeWaiting_X4_hasPassed : GoodIn wsX4_takeWaiting wsX4_hasPassed := goodIn_r _ [17, 18, 2, 3, 4, 5, 6, 7, 27, 28, 29, 30, 31, 32, 33, 34, 35] (by decide +kernel) (by decide +kernel)
set_option maxRecDepth 20000 in
theorem gX4_takeWaiting_X4_hasPassed : GoodIn wsX4_takeWaiting (wsV RX4 63 RX4 yX4_hasPassed wsX4_hasPassed) := goodIn_app (goodIn_of _ (by decide +kernel)) ggX4_takeWaiting_X4_hasPassed
set_option maxRecDepth 20000 in
theorem ggX4_takeWaiting_X4_removeFrom : GoodIn wsX4_takeWaiting wsX4_removeFrom := goodIn_r _ [22, 1, 13, 2, 3, 4, 5, 6, 7, 23, 24, 25, 26, 27, 28, 29, 30, 31, 32, 33, 34, 35] (by decide +kernel) (by decide +kernel)
set_option maxRecDepth 20000 in
theorem gX4_takeWaiting_X4_removeFrom : GoodIn wsX4_takeWaiting (wsV RX4 67 RX4 yX4_removeFrom wsX4_removeFrom) := goodIn_app (goodIn_of _ (by decide +kernel)) ggX4_takeWaiting_X4_removeFrom
theorem dX4_takeWaiting_0 : decode cX4_takeWaiting 0 = .ok (.aload_n 0, 1) := by decide +kernel
theorem dX4_takeWaiting_1 : decode cX4_takeWaiting 1 = .ok (.getfield 35, 3) := by decide +kernel
theorem dX4_takeWaiting_4 : decode cX4_takeWaiting 4 = .ok (.iload_n 1, 1) := by decide +kernel
theorem dX4_takeWaiting_5 : decode cX4_takeWaiting 5 = .ok (.invokevirtual 49, 3) := by decide +kernel
theorem dX4_takeWaiting_8 : decode cX4_takeWaiting 8 = .ok (.istore_n 2, 1) := by decide +kernel
theorem dX4_takeWaiting_9 : decode cX4_takeWaiting 9 = .ok (.iconst 0, 1) := by decide +kernel
theorem dX4_takeWaiting_10 : decode cX4_takeWaiting 10 = .ok (.istore_n 3, 1) := by decide +kernel
theorem dX4_takeWaiting_11 : decode cX4_takeWaiting 11 = .ok (.iload_n 3, 1) := by decide +kernel
theorem dX4_takeWaiting_12 : decode cX4_takeWaiting 12 = .ok (.iload_n 2, 1) := by decide +kernel
theorem dX4_takeWaiting_13 : decode cX4_takeWaiting 13 = .ok (.if_icmp .ge 35, 3) := by decide +kernel
theorem dX4_takeWaiting_16 : decode cX4_takeWaiting 16 = .ok (.aload_n 0, 1) := by decide +kernel
theorem dX4_takeWaiting_17 : decode cX4_takeWaiting 17 = .ok (.iload_n 1, 1) := by decide +kernel
theorem dX4_takeWaiting_18 : decode cX4_takeWaiting 18 = .ok (.iload_n 3, 1) := by decide +kernel
theorem dX4_takeWaiting_19 : decode cX4_takeWaiting 19 = .ok (.invokevirtual 56, 3) := by decide +kernel
theorem dX4_takeWaiting_22 : decode cX4_takeWaiting 22 = .ok (.istore 4, 2) := by decide +kernel
theorem dX4_takeWaiting_24 : decode cX4_takeWaiting 24 = .ok (.aload_n 0, 1) := by decide +kernel
theorem dX4_takeWaiting_25 : decode cX4_takeWaiting 25 = .ok (.iload 4, 2) := by decide +kernel
theorem dX4_takeWaiting_27 : decode cX4_takeWaiting 27 = .ok (.invokevirtual 63, 3) := by decide +kernel
theorem dX4_takeWaiting_30 : decode cX4_takeWaiting 30 = .ok (.ifCond .ne 12, 3) := by decide +kernel
theorem dX4_takeWaiting_33 : decode cX4_takeWaiting 33 = .ok (.aload_n 0, 1) := by decide +kernel
theorem dX4_takeWaiting_34 : decode cX4_takeWaiting 34 = .ok (.iload_n 1, 1) := by decide +kernel
theorem dX4_takeWaiting_35 : decode cX4_takeWaiting 35 = .ok (.iload_n 3, 1) := by decide +kernel
theorem dX4_takeWaiting_36 : decode cX4_takeWaiting 36 = .ok (.invokevirtual 67, 3) := by decide +kernel
theorem dX4_takeWaiting_39 : decode cX4_takeWaiting 39 = .ok (.iload 4, 2) := by decide +kernel
theorem dX4_takeWaiting_41 : decode cX4_takeWaiting 41 = .ok (.ireturn, 1) := by decide +kernel
theorem dX4_takeWaiting_42 : decode cX4_takeWaiting 42 = .ok (.iinc 3 1, 3) := by decide +kernel
theorem dX4_takeWaiting_45 : decode cX4_takeWaiting 45 = .ok (.goto (-34), 3) := by decide +kernel
theorem dX4_takeWaiting_48 : decode cX4_takeWaiting 48 = .ok (.sipush (-1006), 3) := by decide +kernel
theorem dX4_takeWaiting_51 : decode cX4_takeWaiting 51 = .ok (.ireturn, 1) := by decide +kernel
set_option maxRecDepth 20000 in
theorem ggX4_removeFrom_X0_get : GoodIn wsX4_removeFrom wsX0_get := goodIn_r _ [7, 8, 21] (by decide +kernel) (by decide +kernel)
set_option maxRecDepth 20000 in
theorem gX4_removeFrom_X0_get : GoodIn wsX4_removeFrom (wsV RX4 49 RX0 yX0_get wsX0_get) := goodIn_app (goodIn_of _ (by decide +kernel)) ggX4_removeFrom_X0_get
set_option maxRecDepth 20000 in
theorem ggX4_removeFrom_X0_set : GoodIn wsX4_removeFrom wsX0_set := goodIn_r _ [12, 8, 21] (by decide +kernel) (by decide +kernel)
set_option maxRecDepth 20000 in
theorem gX4_removeFrom_X0_set : GoodIn wsX4_removeFrom (wsV RX4 42 RX0 yX0_set wsX0_set) := goodIn_app (goodIn_of _ (by decide +kernel)) ggX4_removeFrom_X0_set
theorem dX4_removeFrom_0 : decode cX4_removeFrom 0 = .ok (.iload_n 1, 1) := by decide +kernel
theorem dX4_removeFrom_1 : decode cX4_removeFrom 1 = .ok (.bipush 12, 2) := by decide +kernel
theorem dX4_removeFrom_3 : decode cX4_removeFrom 3 = .ok (.imul, 1) := by decide +kernel
theorem dX4_removeFrom_4 : decode cX4_removeFrom 4 = .ok (.istore_n 3, 1) := by decide +kernel
theorem dX4_removeFrom_5 : decode cX4_removeFrom 5 = .ok (.aload_n 0, 1) := by decide +kernel
theorem dX4_removeFrom_6 : decode cX4_removeFrom 6 = .ok (.getfield 35, 3) := by decide +kernel
theorem dX4_removeFrom_9 : decode cX4_removeFrom 9 = .ok (.iload_n 1, 1) := by decide +kernel
theorem dX4_removeFrom_10 : decode cX4_removeFrom 10 = .ok (.invokevirtual 49, 3) := by decide +kernel
theorem dX4_removeFrom_13 : decode cX4_removeFrom 13 = .ok (.istore 4, 2) := by decide +kernel
theorem dX4_removeFrom_15 : decode cX4_removeFrom 15 = .ok (.iload_n 2, 1) := by decide +kernel
theorem dX4_removeFrom_16 : decode cX4_removeFrom 16 = .ok (.iconst 1, 1) := by decide +kernel
theorem dX4_removeFrom_17 : decode cX4_removeFrom 17 = .ok (.iadd, 1) := by decide +kernel
theorem dX4_removeFrom_18 : decode cX4_removeFrom 18 = .ok (.istore 5, 2) := by decide +kernel
theorem dX4_removeFrom_20 : decode cX4_removeFrom 20 = .ok (.iload 5, 2) := by decide +kernel
theorem dX4_removeFrom_22 : decode cX4_removeFrom 22 = .ok (.iload 4, 2) := by decide +kernel
theorem dX4_removeFrom_24 : decode cX4_removeFrom 24 = .ok (.if_icmp .ge 33, 3) := by decide +kernel
theorem dX4_removeFrom_27 : decode cX4_removeFrom 27 = .ok (.aload_n 0, 1) := by decide +kernel
theorem dX4_removeFrom_28 : decode cX4_removeFrom 28 = .ok (.getfield 32, 3) := by decide +kernel
theorem dX4_removeFrom_31 : decode cX4_removeFrom 31 = .ok (.iload_n 3, 1) := by decide +kernel
theorem dX4_removeFrom_32 : decode cX4_removeFrom 32 = .ok (.iload 5, 2) := by decide +kernel
theorem dX4_removeFrom_34 : decode cX4_removeFrom 34 = .ok (.iadd, 1) := by decide +kernel
theorem dX4_removeFrom_35 : decode cX4_removeFrom 35 = .ok (.iconst 1, 1) := by decide +kernel
theorem dX4_removeFrom_36 : decode cX4_removeFrom 36 = .ok (.isub, 1) := by decide +kernel
theorem dX4_removeFrom_37 : decode cX4_removeFrom 37 = .ok (.aload_n 0, 1) := by decide +kernel
theorem dX4_removeFrom_38 : decode cX4_removeFrom 38 = .ok (.getfield 32, 3) := by decide +kernel
theorem dX4_removeFrom_41 : decode cX4_removeFrom 41 = .ok (.iload_n 3, 1) := by decide +kernel
theorem dX4_removeFrom_42 : decode cX4_removeFrom 42 = .ok (.iload 5, 2) := by decide +kernel
theorem dX4_removeFrom_44 : decode cX4_removeFrom 44 = .ok (.iadd, 1) := by decide +kernel
theorem dX4_removeFrom_45 : decode cX4_removeFrom 45 = .ok (.invokevirtual 49, 3) := by decide +kernel
theorem dX4_removeFrom_48 : decode cX4_removeFrom 48 = .ok (.invokevirtual 42, 3) := by decide +kernel
theorem dX4_removeFrom_51 : decode cX4_removeFrom 51 = .ok (.iinc 5 1, 3) := by decide +kernel
theorem dX4_removeFrom_54 : decode cX4_removeFrom 54 = .ok (.goto (-34), 3) := by decide +kernel
theorem dX4_removeFrom_57 : decode cX4_removeFrom 57 = .ok (.aload_n 0, 1) := by decide +kernel
theorem dX4_removeFrom_58 : decode cX4_removeFrom 58 = .ok (.getfield 35, 3) := by decide +kernel
theorem dX4_removeFrom_61 : decode cX4_removeFrom 61 = .ok (.iload_n 1, 1) := by decide +kernel
theorem dX4_removeFrom_62 : decode cX4_removeFrom 62 = .ok (.iload 4, 2) := by decide +kernel
theorem dX4_removeFrom_64 : decode cX4_removeFrom 64 = .ok (.iconst 1, 1) := by decide +kernel
theorem dX4_removeFrom_65 : decode cX4_removeFrom 65 = .ok (.isub, 1) := by decide +kernel
theorem dX4_removeFrom_66 : decode cX4_removeFrom 66 = .ok (.invokevirtual 42, 3) := by decide +kernel
theorem dX4_removeFrom_69 : decode cX4_removeFrom 69 = .ok (.return_, 1) := by decide +kernel
set_option maxRecDepth 20000 in
theorem ggX4_copyFrom_X0_copyFrom : GoodIn wsX4_copyFrom wsX0_copyFrom := goodIn_r _ [13, 14, 15, 16, 17, 18, 19, 20, 21, 22, 31] (by decide +kernel) (by decide +kernel)
set_option maxRecDepth 20000 in
theorem gX4_copyFrom_X0_copyFrom : GoodIn wsX4_copyFrom (wsV RX4 70 RX0 yX0_copyFrom wsX0_copyFrom) := goodIn_app (goodIn_of _ (by decide +kernel)) ggX4_copyFrom_X0_copyFrom
theorem dX4_copyFrom_0 : decode cX4_copyFrom 0 = .ok (.aload_n 1, 1) := by decide +kernel
theorem dX4_copyFrom_1 : decode cX4_copyFrom 1 = .ok (.ifnull 88, 3) := by decide +kernel
theorem dX4_copyFrom_4 : decode cX4_copyFrom 4 = .ok (.aload_n 0, 1) := by decide +kernel
theorem dX4_copyFrom_5 : decode cX4_copyFrom 5 = .ok (.getfield 14, 3) := by decide +kernel
theorem dX4_copyFrom_8 : decode cX4_copyFrom 8 = .ok (.aload_n 1, 1) := by decide +kernel
theorem dX4_copyFrom_9 : decode cX4_copyFrom 9 = .ok (.getfield 14, 3) := by decide +kernel
theorem dX4_copyFrom_12 : decode cX4_copyFrom 12 = .ok (.invokevirtual 70, 3) := by decide +kernel
theorem dX4_copyFrom_15 : decode cX4_copyFrom 15 = .ok (.aload_n 0, 1) := by decide +kernel
theorem dX4_copyFrom_16 : decode cX4_copyFrom 16 = .ok (.getfield 20, 3) := by decide +kernel
theorem dX4_copyFrom_19 : decode cX4_copyFrom 19 = .ok (.aload_n 1, 1) := by decide +kernel
theorem dX4_copyFrom_20 : decode cX4_copyFrom 20 = .ok (.getfield 20, 3) := by decide +kernel
theorem dX4_copyFrom_23 : decode cX4_copyFrom 23 = .ok (.invokevirtual 70, 3) := by decide +kernel
theorem dX4_copyFrom_26 : decode cX4_copyFrom 26 = .ok (.aload_n 0, 1) := by decide +kernel
theorem dX4_copyFrom_27 : decode cX4_copyFrom 27 = .ok (.getfield 23, 3) := by decide +kernel
theorem dX4_copyFrom_30 : decode cX4_copyFrom 30 = .ok (.aload_n 1, 1) := by decide +kernel
theorem dX4_copyFrom_31 : decode cX4_copyFrom 31 = .ok (.getfield 23, 3) := by decide +kernel
theorem dX4_copyFrom_34 : decode cX4_copyFrom 34 = .ok (.invokevirtual 70, 3) := by decide +kernel
theorem dX4_copyFrom_37 : decode cX4_copyFrom 37 = .ok (.aload_n 0, 1) := by decide +kernel
theorem dX4_copyFrom_38 : decode cX4_copyFrom 38 = .ok (.getfield 26, 3) := by decide +kernel
theorem dX4_copyFrom_41 : decode cX4_copyFrom 41 = .ok (.aload_n 1, 1) := by decide +kernel
theorem dX4_copyFrom_42 : decode cX4_copyFrom 42 = .ok (.getfield 26, 3) := by decide +kernel
theorem dX4_copyFrom_45 : decode cX4_copyFrom 45 = .ok (.invokevirtual 70, 3) := by decide +kernel
theorem dX4_copyFrom_48 : decode cX4_copyFrom 48 = .ok (.aload_n 0, 1) := by decide +kernel
theorem dX4_copyFrom_49 : decode cX4_copyFrom 49 = .ok (.getfield 29, 3) := by decide +kernel
theorem dX4_copyFrom_52 : decode cX4_copyFrom 52 = .ok (.aload_n 1, 1) := by decide +kernel
theorem dX4_copyFrom_53 : decode cX4_copyFrom 53 = .ok (.getfield 29, 3) := by decide +kernel
theorem dX4_copyFrom_56 : decode cX4_copyFrom 56 = .ok (.invokevirtual 70, 3) := by decide +kernel
theorem dX4_copyFrom_59 : decode cX4_copyFrom 59 = .ok (.aload_n 0, 1) := by decide +kernel
theorem dX4_copyFrom_60 : decode cX4_copyFrom 60 = .ok (.getfield 32, 3) := by decide +kernel
theorem dX4_copyFrom_63 : decode cX4_copyFrom 63 = .ok (.aload_n 1, 1) := by decide +kernel
theorem dX4_copyFrom_64 : decode cX4_copyFrom 64 = .ok (.getfield 32, 3) := by decide +kernel
theorem dX4_copyFrom_67 : decode cX4_copyFrom 67 = .ok (.invokevirtual 70, 3) := by decide +kernel
theorem dX4_copyFrom_70 : decode cX4_copyFrom 70 = .ok (.aload_n 0, 1) := by decide +kernel
theorem dX4_copyFrom_71 : decode cX4_copyFrom 71 = .ok (.getfield 35, 3) := by decide +kernel
theorem dX4_copyFrom_74 : decode cX4_copyFrom 74 = .ok (.aload_n 1, 1) := by decide +kernel
theorem dX4_copyFrom_75 : decode cX4_copyFrom 75 = .ok (.getfield 35, 3) := by decide +kernel
theorem dX4_copyFrom_78 : decode cX4_copyFrom 78 = .ok (.invokevirtual 70, 3) := by decide +kernel
theorem dX4_copyFrom_81 : decode cX4_copyFrom 81 = .ok (.aload_n 0, 1) := by decide +kernel
theorem dX4_copyFrom_82 : decode cX4_copyFrom 82 = .ok (.aload_n 1, 1) := by decide +kernel
theorem dX4_copyFrom_83 : decode cX4_copyFrom 83 = .ok (.getfield 38, 3) := by decide +kernel
theorem dX4_copyFrom_86 : decode cX4_copyFrom 86 = .ok (.putfield 38, 3) := by decide +kernel
theorem dX4_copyFrom_89 : decode cX4_copyFrom 89 = .ok (.return_, 1) := by decide +kernel
set_option maxRecDepth 20000 in
theorem ggX5_init_X3_init : GoodIn wsX5_init wsX3_init := goodIn_r _ [18, 19, 2, 3, 20, 21, 22, 23, 24, 25, 26, 27, 28, 29, 30, 31, 32, 33, 34, 35, 36, 37, 38, 39, 6, 40, 41, 42, 43, 44, 102, 76, 77, 78, 79] (by decide +kernel) (by decide +kernel)
set_option maxRecDepth 20000 in
theorem gX5_init_X3_init : GoodIn wsX5_init (wsX3_init) := ggX5_init_X3_init
set_option maxRecDepth 20000 in
theorem ggX5_init_X1_init : GoodIn wsX5_init wsX1_init := goodIn_r _ [47, 48, 2, 3, 49, 21, 22, 50, 51, 52, 53, 54, 55, 56, 57, 58, 28, 29, 30, 31, 32, 33, 34, 35, 36, 59, 60, 61, 10, 62, 63, 42, 43, 44, 102, 86, 87, 88, 89, 90, 91, 92, 93] (by decide +kernel) (by decide +kernel)
set_option maxRecDepth 20000 in
theorem gX5_init_X1_init : GoodIn wsX5_init (wsX1_init) := ggX5_init_X1_init
set_option maxRecDepth 20000 in
theorem ggX5_init_X4_init : GoodIn wsX5_init wsX4_init := goodIn_r _ [65, 66, 2, 3, 67, 21, 22, 68, 69, 70, 71, 72, 73, 74, 75, 28, 29, 30, 31, 32, 33, 34, 35, 36, 102, 94, 95, 96, 97, 98, 99, 100, 101] (by decide +kernel) (by decide +kernel)
set_option maxRecDepth 20000 in
theorem gX5_init_X4_init_n27 : GoodIn wsX5_init (wsX4_init) := ggX5_init_X4_init
theorem dX5_init_0 : decode cX5_init 0 = .ok (.aload_n 0, 1) := by decide +kernel
theorem dX5_init_1 : decode cX5_init 1 = .ok (.invokespecial 3, 3) := by decide +kernel
theorem dX5_init_4 : decode cX5_init 4 = .ok (.aload_n 0, 1) := by decide +kernel
theorem dX5_init_5 : decode cX5_init 5 = .ok (.new 9, 3) := by decide +kernel
theorem dX5_init_8 : decode cX5_init 8 = .ok (.dup, 1) := by decide +kernel
theorem dX5_init_9 : decode cX5_init 9 = .ok (.invokespecial 11, 3) := by decide +kernel
theorem dX5_init_12 : decode cX5_init 12 = .ok (.putfield 12, 3) := by decide +kernel
theorem dX5_init_15 : decode cX5_init 15 = .ok (.aload_n 0, 1) := by decide +kernel
theorem dX5_init_16 : decode cX5_init 16 = .ok (.new 18, 3) := by decide +kernel
theorem dX5_init_19 : decode cX5_init 19 = .ok (.dup, 1) := by decide +kernel
theorem dX5_init_20 : decode cX5_init 20 = .ok (.invokespecial 20, 3) := by decide +kernel
theorem dX5_init_23 : decode cX5_init 23 = .ok (.putfield 21, 3) := by decide +kernel
theorem dX5_init_26 : decode cX5_init 26 = .ok (.aload_n 0, 1) := by decide +kernel
theorem dX5_init_27 : decode cX5_init 27 = .ok (.new 25, 3) := by decide +kernel
theorem dX5_init_30 : decode cX5_init 30 = .ok (.dup, 1) := by decide +kernel
theorem dX5_init_31 : decode cX5_init 31 = .ok (.invokespecial 27, 3) := by decide +kernel
theorem dX5_init_34 : decode cX5_init 34 = .ok (.putfield 28, 3) := by decide +kernel
theorem dX5_init_37 : decode cX5_init 37 = .ok (.return_, 1) := by decide +kernel
set_option maxRecDepth 20000 in
theorem ggX5_isOpenAt_X3_gapAt : GoodIn wsX5_isOpenAt wsX3_gapAt := goodIn_r _ [7, 8, 9, 10, 6, 11, 12, 13, 14, 15, 16, 17, 18, 19, 20, 21, 22, 23, 24, 25, 26, 27, 28, 29, 51, 52, 53, 54, 55] (by decide +kernel) (by decide +kernel)
set_option maxRecDepth 20000 in
theorem gX5_isOpenAt_X3_gapAt : GoodIn wsX5_isOpenAt (wsV RX5 32 RX3 yX3_gapAt wsX3_gapAt) := goodIn_app (goodIn_of _ (by decide +kernel)) ggX5_isOpenAt_X3_gapAt
set_option maxRecDepth 20000 in
theorem ggX5_isOpenAt_X1_isOpenAcross : GoodIn wsX5_isOpenAt wsX1_isOpenAcross := goodIn_r _ [34, 35, 36, 22, 37, 38, 39, 40, 41, 33, 42, 43, 44, 25, 26, 27, 28, 29, 56, 57, 58, 59, 60, 61, 62, 63, 55] (by decide +kernel) (by decide +kernel)
set_option maxRecDepth 20000 in
theorem gX5_isOpenAt_X1_isOpenAcross : GoodIn wsX5_isOpenAt (wsV RX5 36 RX1 yX1_isOpenAcross wsX1_isOpenAcross) := goodIn_app (goodIn_of _ (by decide +kernel)) ggX5_isOpenAt_X1_isOpenAcross
theorem dX5_isOpenAt_0 : decode cX5_isOpenAt 0 = .ok (.aload_n 0, 1) := by decide +kernel
theorem dX5_isOpenAt_1 : decode cX5_isOpenAt 1 = .ok (.getfield 21, 3) := by decide +kernel
theorem dX5_isOpenAt_4 : decode cX5_isOpenAt 4 = .ok (.iload_n 1, 1) := by decide +kernel
theorem dX5_isOpenAt_5 : decode cX5_isOpenAt 5 = .ok (.aload_n 0, 1) := by decide +kernel
theorem dX5_isOpenAt_6 : decode cX5_isOpenAt 6 = .ok (.getfield 12, 3) := by decide +kernel
theorem dX5_isOpenAt_9 : decode cX5_isOpenAt 9 = .ok (.iload_n 2, 1) := by decide +kernel
theorem dX5_isOpenAt_10 : decode cX5_isOpenAt 10 = .ok (.invokevirtual 32, 3) := by decide +kernel
theorem dX5_isOpenAt_13 : decode cX5_isOpenAt 13 = .ok (.invokevirtual 36, 3) := by decide +kernel
theorem dX5_isOpenAt_16 : decode cX5_isOpenAt 16 = .ok (.ireturn, 1) := by decide +kernel
set_option maxRecDepth 20000 in
theorem ggX5_openMask_X5_isOpenAt : GoodIn wsX5_openMask wsX5_isOpenAt := goodIn_r _ [6, 7, 8, 9, 10, 11, 12, 13, 14, 15, 16, 17, 18, 19, 20, 21, 22, 23, 24, 25, 26, 27, 28, 29, 30, 31, 32, 33, 34, 35, 36, 37, 38, 39, 40, 41, 42, 43, 44, 45, 46, 47, 48, 49, 50, 51, 52, 53, 54, 55, 56, 57, 58, 59, 60, 61, 62, 63, 64, 65, 66, 67, 68, 69] (by decide +kernel) (by decide +kernel)
set_option maxRecDepth 20000 in
theorem gX5_openMask_X5_isOpenAt : GoodIn wsX5_openMask (wsV RX5 44 RX5 yX5_isOpenAt wsX5_isOpenAt) := goodIn_app (goodIn_of _ (by decide +kernel)) ggX5_openMask_X5_isOpenAt
theorem dX5_openMask_0 : decode cX5_openMask 0 = .ok (.iconst 0, 1) := by decide +kernel
theorem dX5_openMask_1 : decode cX5_openMask 1 = .ok (.istore_n 1, 1) := by decide +kernel
theorem dX5_openMask_2 : decode cX5_openMask 2 = .ok (.iconst 0, 1) := by decide +kernel
theorem dX5_openMask_3 : decode cX5_openMask 3 = .ok (.istore_n 2, 1) := by decide +kernel
theorem dX5_openMask_4 : decode cX5_openMask 4 = .ok (.iload_n 2, 1) := by decide +kernel
theorem dX5_openMask_5 : decode cX5_openMask 5 = .ok (.iconst 4, 1) := by decide +kernel
theorem dX5_openMask_6 : decode cX5_openMask 6 = .ok (.if_icmp .ge 31, 3) := by decide +kernel
theorem dX5_openMask_9 : decode cX5_openMask 9 = .ok (.iload_n 1, 1) := by decide +kernel
theorem dX5_openMask_10 : decode cX5_openMask 10 = .ok (.aload_n 0, 1) := by decide +kernel
theorem dX5_openMask_11 : decode cX5_openMask 11 = .ok (.iload_n 2, 1) := by decide +kernel
theorem dX5_openMask_12 : decode cX5_openMask 12 = .ok (.aload_n 0, 1) := by decide +kernel
theorem dX5_openMask_13 : decode cX5_openMask 13 = .ok (.getfield 40, 3) := by decide +kernel
theorem dX5_openMask_16 : decode cX5_openMask 16 = .ok (.invokevirtual 44, 3) := by decide +kernel
theorem dX5_openMask_19 : decode cX5_openMask 19 = .ok (.ifCond .eq 9, 3) := by decide +kernel
theorem dX5_openMask_22 : decode cX5_openMask 22 = .ok (.iconst 1, 1) := by decide +kernel
theorem dX5_openMask_23 : decode cX5_openMask 23 = .ok (.iload_n 2, 1) := by decide +kernel
theorem dX5_openMask_24 : decode cX5_openMask 24 = .ok (.ishl, 1) := by decide +kernel
theorem dX5_openMask_25 : decode cX5_openMask 25 = .ok (.goto 4, 3) := by decide +kernel
theorem dX5_openMask_28 : decode cX5_openMask 28 = .ok (.iconst 0, 1) := by decide +kernel
theorem dX5_openMask_29 : decode cX5_openMask 29 = .ok (.ior, 1) := by decide +kernel
theorem dX5_openMask_30 : decode cX5_openMask 30 = .ok (.istore_n 1, 1) := by decide +kernel
theorem dX5_openMask_31 : decode cX5_openMask 31 = .ok (.iinc 2 1, 3) := by decide +kernel
theorem dX5_openMask_34 : decode cX5_openMask 34 = .ok (.goto (-30), 3) := by decide +kernel
theorem dX5_openMask_37 : decode cX5_openMask 37 = .ok (.iload_n 1, 1) := by decide +kernel
theorem dX5_openMask_38 : decode cX5_openMask 38 = .ok (.ireturn, 1) := by decide +kernel
set_option maxRecDepth 20000 in
theorem ggX5_stepsUntilOpen_X5_isOpenAt : GoodIn wsX5_stepsUntilOpen wsX5_isOpenAt := goodIn_r _ [6, 7, 8, 9, 10, 11, 12, 13, 14, 15, 16, 17, 18, 19, 20, 21, 22, 23, 24, 25, 26, 27, 28, 29, 30, 31, 32, 33, 34, 35, 36, 37, 38, 39, 40, 41, 42, 43, 44, 45, 46, 47, 48, 49, 50, 51, 52, 53, 54, 55, 56, 57, 58, 59, 60, 61, 62, 63, 64, 65, 66, 67, 68, 69] (by decide +kernel) (by decide +kernel)
set_option maxRecDepth 20000 in
theorem gX5_stepsUntilOpen_X5_isOpenAt : GoodIn wsX5_stepsUntilOpen (wsV RX5 44 RX5 yX5_isOpenAt wsX5_isOpenAt) := goodIn_app (goodIn_of _ (by decide +kernel)) ggX5_stepsUntilOpen_X5_isOpenAt
theorem dX5_stepsUntilOpen_0 : decode cX5_stepsUntilOpen 0 = .ok (.iconst 0, 1) := by decide +kernel
theorem dX5_stepsUntilOpen_1 : decode cX5_stepsUntilOpen 1 = .ok (.istore_n 2, 1) := by decide +kernel
theorem dX5_stepsUntilOpen_2 : decode cX5_stepsUntilOpen 2 = .ok (.iload_n 2, 1) := by decide +kernel
theorem dX5_stepsUntilOpen_3 : decode cX5_stepsUntilOpen 3 = .ok (.sipush 4000, 3) := by decide +kernel
theorem dX5_stepsUntilOpen_6 : decode cX5_stepsUntilOpen 6 = .ok (.if_icmp .ge 25, 3) := by decide +kernel
theorem dX5_stepsUntilOpen_9 : decode cX5_stepsUntilOpen 9 = .ok (.aload_n 0, 1) := by decide +kernel
theorem dX5_stepsUntilOpen_10 : decode cX5_stepsUntilOpen 10 = .ok (.iload_n 1, 1) := by decide +kernel
theorem dX5_stepsUntilOpen_11 : decode cX5_stepsUntilOpen 11 = .ok (.aload_n 0, 1) := by decide +kernel
theorem dX5_stepsUntilOpen_12 : decode cX5_stepsUntilOpen 12 = .ok (.getfield 40, 3) := by decide +kernel
theorem dX5_stepsUntilOpen_15 : decode cX5_stepsUntilOpen 15 = .ok (.iload_n 2, 1) := by decide +kernel
theorem dX5_stepsUntilOpen_16 : decode cX5_stepsUntilOpen 16 = .ok (.iadd, 1) := by decide +kernel
theorem dX5_stepsUntilOpen_17 : decode cX5_stepsUntilOpen 17 = .ok (.invokevirtual 44, 3) := by decide +kernel
theorem dX5_stepsUntilOpen_20 : decode cX5_stepsUntilOpen 20 = .ok (.ifCond .eq 5, 3) := by decide +kernel
theorem dX5_stepsUntilOpen_23 : decode cX5_stepsUntilOpen 23 = .ok (.iload_n 2, 1) := by decide +kernel
theorem dX5_stepsUntilOpen_24 : decode cX5_stepsUntilOpen 24 = .ok (.ireturn, 1) := by decide +kernel
theorem dX5_stepsUntilOpen_25 : decode cX5_stepsUntilOpen 25 = .ok (.iinc 2 1, 3) := by decide +kernel
theorem dX5_stepsUntilOpen_28 : decode cX5_stepsUntilOpen 28 = .ok (.goto (-26), 3) := by decide +kernel
theorem dX5_stepsUntilOpen_31 : decode cX5_stepsUntilOpen 31 = .ok (.sipush (-1006), 3) := by decide +kernel
theorem dX5_stepsUntilOpen_34 : decode cX5_stepsUntilOpen 34 = .ok (.ireturn, 1) := by decide +kernel
set_option maxRecDepth 20000 in
theorem ggX5_openStepsFrom_X5_isOpenAt : GoodIn wsX5_openStepsFrom wsX5_isOpenAt := goodIn_r _ [5, 6, 7, 8, 9, 10, 11, 12, 13, 14, 15, 16, 17, 18, 19, 20, 21, 22, 23, 24, 25, 26, 27, 28, 29, 30, 31, 32, 33, 34, 35, 36, 37, 38, 39, 40, 41, 42, 43, 44, 45, 46, 47, 48, 49, 50, 51, 52, 53, 54, 55, 56, 57, 58, 59, 60, 61, 62, 63, 64, 65, 66, 67, 68] (by decide +kernel) (by decide +kernel)
set_option maxRecDepth 20000 in
theorem gX5_openStepsFrom_X5_isOpenAt : GoodIn wsX5_openStepsFrom (wsV RX5 44 RX5 yX5_isOpenAt wsX5_isOpenAt) := goodIn_app (goodIn_of _ (by decide +kernel)) ggX5_openStepsFrom_X5_isOpenAt
theorem dX5_openStepsFrom_0 : decode cX5_openStepsFrom 0 = .ok (.iconst 0, 1) := by decide +kernel
theorem dX5_openStepsFrom_1 : decode cX5_openStepsFrom 1 = .ok (.istore_n 3, 1) := by decide +kernel
theorem dX5_openStepsFrom_2 : decode cX5_openStepsFrom 2 = .ok (.iload_n 3, 1) := by decide +kernel
theorem dX5_openStepsFrom_3 : decode cX5_openStepsFrom 3 = .ok (.sipush 4000, 3) := by decide +kernel
theorem dX5_openStepsFrom_6 : decode cX5_openStepsFrom 6 = .ok (.if_icmp .ge 20, 3) := by decide +kernel
theorem dX5_openStepsFrom_9 : decode cX5_openStepsFrom 9 = .ok (.aload_n 0, 1) := by decide +kernel
theorem dX5_openStepsFrom_10 : decode cX5_openStepsFrom 10 = .ok (.iload_n 1, 1) := by decide +kernel
theorem dX5_openStepsFrom_11 : decode cX5_openStepsFrom 11 = .ok (.iload_n 2, 1) := by decide +kernel
theorem dX5_openStepsFrom_12 : decode cX5_openStepsFrom 12 = .ok (.iload_n 3, 1) := by decide +kernel
theorem dX5_openStepsFrom_13 : decode cX5_openStepsFrom 13 = .ok (.iadd, 1) := by decide +kernel
theorem dX5_openStepsFrom_14 : decode cX5_openStepsFrom 14 = .ok (.invokevirtual 44, 3) := by decide +kernel
theorem dX5_openStepsFrom_17 : decode cX5_openStepsFrom 17 = .ok (.ifCond .eq 9, 3) := by decide +kernel
theorem dX5_openStepsFrom_20 : decode cX5_openStepsFrom 20 = .ok (.iinc 3 1, 3) := by decide +kernel
theorem dX5_openStepsFrom_23 : decode cX5_openStepsFrom 23 = .ok (.goto (-21), 3) := by decide +kernel
theorem dX5_openStepsFrom_26 : decode cX5_openStepsFrom 26 = .ok (.iload_n 3, 1) := by decide +kernel
theorem dX5_openStepsFrom_27 : decode cX5_openStepsFrom 27 = .ok (.ireturn, 1) := by decide +kernel
set_option maxRecDepth 20000 in
theorem ggX5_whereIs_X1_gateWith : GoodIn wsX5_whereIs wsX1_gateWith := goodIn_r _ [7, 8, 9, 10, 11, 12, 13, 14, 33, 34, 35, 36, 37, 38, 39, 40, 41] (by decide +kernel) (by decide +kernel)
set_option maxRecDepth 20000 in
theorem gX5_whereIs_X1_gateWith : GoodIn wsX5_whereIs (wsV RX5 47 RX1 yX1_gateWith wsX1_gateWith) := goodIn_app (goodIn_of _ (by decide +kernel)) ggX5_whereIs_X1_gateWith
set_option maxRecDepth 20000 in
theorem ggX5_whereIs_X4_placeIn : GoodIn wsX5_whereIs wsX4_placeIn := goodIn_r _ [19, 20, 21, 10, 11, 12, 13, 14, 22, 23, 24, 18, 25, 26, 42, 43, 44, 45, 46, 47, 48, 49, 41] (by decide +kernel) (by decide +kernel)
set_option maxRecDepth 20000 in
theorem gX5_whereIs_X4_placeIn : GoodIn wsX5_whereIs (wsV RX5 50 RX4 yX4_placeIn wsX4_placeIn) := goodIn_app (goodIn_of _ (by decide +kernel)) ggX5_whereIs_X4_placeIn
theorem dX5_whereIs_0 : decode cX5_whereIs 0 = .ok (.aload_n 0, 1) := by decide +kernel
theorem dX5_whereIs_1 : decode cX5_whereIs 1 = .ok (.getfield 21, 3) := by decide +kernel
theorem dX5_whereIs_4 : decode cX5_whereIs 4 = .ok (.iload_n 1, 1) := by decide +kernel
theorem dX5_whereIs_5 : decode cX5_whereIs 5 = .ok (.invokevirtual 47, 3) := by decide +kernel
theorem dX5_whereIs_8 : decode cX5_whereIs 8 = .ok (.istore_n 2, 1) := by decide +kernel
theorem dX5_whereIs_9 : decode cX5_whereIs 9 = .ok (.iload_n 2, 1) := by decide +kernel
theorem dX5_whereIs_10 : decode cX5_whereIs 10 = .ok (.sipush (-1006), 3) := by decide +kernel
theorem dX5_whereIs_13 : decode cX5_whereIs 13 = .ok (.if_icmp .eq 7, 3) := by decide +kernel
theorem dX5_whereIs_16 : decode cX5_whereIs 16 = .ok (.iconst 2, 1) := by decide +kernel
theorem dX5_whereIs_17 : decode cX5_whereIs 17 = .ok (.iload_n 2, 1) := by decide +kernel
theorem dX5_whereIs_18 : decode cX5_whereIs 18 = .ok (.iadd, 1) := by decide +kernel
theorem dX5_whereIs_19 : decode cX5_whereIs 19 = .ok (.ireturn, 1) := by decide +kernel
theorem dX5_whereIs_20 : decode cX5_whereIs 20 = .ok (.aload_n 0, 1) := by decide +kernel
theorem dX5_whereIs_21 : decode cX5_whereIs 21 = .ok (.getfield 28, 3) := by decide +kernel
theorem dX5_whereIs_24 : decode cX5_whereIs 24 = .ok (.iconst 0, 1) := by decide +kernel
theorem dX5_whereIs_25 : decode cX5_whereIs 25 = .ok (.iload_n 1, 1) := by decide +kernel
theorem dX5_whereIs_26 : decode cX5_whereIs 26 = .ok (.invokevirtual 50, 3) := by decide +kernel
theorem dX5_whereIs_29 : decode cX5_whereIs 29 = .ok (.sipush (-1006), 3) := by decide +kernel
theorem dX5_whereIs_32 : decode cX5_whereIs 32 = .ok (.if_icmp .eq 7, 3) := by decide +kernel
theorem dX5_whereIs_35 : decode cX5_whereIs 35 = .ok (.iconst 0, 1) := by decide +kernel
theorem dX5_whereIs_36 : decode cX5_whereIs 36 = .ok (.goto 4, 3) := by decide +kernel
theorem dX5_whereIs_39 : decode cX5_whereIs 39 = .ok (.iconst 1, 1) := by decide +kernel
theorem dX5_whereIs_40 : decode cX5_whereIs 40 = .ok (.ireturn, 1) := by decide +kernel
set_option maxRecDepth 20000 in
theorem ggX5_makeSteps_X3_gapAt : GoodIn wsX5_makeSteps wsX3_gapAt := goodIn_r _ [7, 8, 9, 10, 6, 11, 12, 13, 14, 15, 16, 17, 18, 19, 20, 21, 22, 23, 24, 25, 26, 27, 28, 29, 135, 136, 137, 138, 139] (by decide +kernel) (by decide +kernel)
set_option maxRecDepth 20000 in
theorem gX5_makeSteps_X3_gapAt : GoodIn wsX5_makeSteps (wsV RX5 32 RX3 yX3_gapAt wsX3_gapAt) := goodIn_app (goodIn_of _ (by decide +kernel)) ggX5_makeSteps_X3_gapAt
set_option maxRecDepth 20000 in
theorem ggX5_makeSteps_X5_stepAcross : GoodIn wsX5_makeSteps wsX5_stepAcross := goodIn_r _ [34, 35, 36, 2, 37, 38, 39, 40, 41, 42, 43, 22, 44, 45, 46, 47, 48, 49, 50, 51, 25, 26, 27, 28, 29, 52, 53, 54, 33, 55, 56, 57, 58, 59, 60, 61, 62, 63, 64, 65, 66, 67, 68, 69, 70, 71, 72, 73, 74, 75, 76, 77, 78, 79, 80, 81, 82, 83, 84, 85, 86, 87, 88, 89, 90, 91, 92, 93, 94, 95, 96, 97, 98, 99, 100, 101, 102, 103, 104, 105, 106, 107, 108, 109, 110, 111, 112, 113, 114, 115, 116, 117, 118, 119, 120, 121, 122, 123, 124, 125, 126, 127, 128, 129, 130, 131, 132, 133, 134, 140, 141, 142, 143, 144, 145, 146, 147, 139, 148, 149, 150, 151, 152, 153, 154, 155] (by decide +kernel) (by decide +kernel)
set_option maxRecDepth 20000 in
theorem gX5_makeSteps_X5_stepAcross : GoodIn wsX5_makeSteps (wsV RX5 54 RX5 yX5_stepAcross wsX5_stepAcross) := goodIn_app (goodIn_of _ (by decide +kernel)) ggX5_makeSteps_X5_stepAcross
theorem dX5_makeSteps_0 : decode cX5_makeSteps 0 = .ok (.iconst 0, 1) := by decide +kernel
theorem dX5_makeSteps_1 : decode cX5_makeSteps 1 = .ok (.istore_n 2, 1) := by decide +kernel
theorem dX5_makeSteps_2 : decode cX5_makeSteps 2 = .ok (.iload_n 2, 1) := by decide +kernel
theorem dX5_makeSteps_3 : decode cX5_makeSteps 3 = .ok (.iload_n 1, 1) := by decide +kernel
theorem dX5_makeSteps_4 : decode cX5_makeSteps 4 = .ok (.if_icmp .ge 24, 3) := by decide +kernel
theorem dX5_makeSteps_7 : decode cX5_makeSteps 7 = .ok (.aload_n 0, 1) := by decide +kernel
theorem dX5_makeSteps_8 : decode cX5_makeSteps 8 = .ok (.aload_n 0, 1) := by decide +kernel
theorem dX5_makeSteps_9 : decode cX5_makeSteps 9 = .ok (.getfield 12, 3) := by decide +kernel
theorem dX5_makeSteps_12 : decode cX5_makeSteps 12 = .ok (.aload_n 0, 1) := by decide +kernel
theorem dX5_makeSteps_13 : decode cX5_makeSteps 13 = .ok (.getfield 40, 3) := by decide +kernel
theorem dX5_makeSteps_16 : decode cX5_makeSteps 16 = .ok (.invokevirtual 32, 3) := by decide +kernel
theorem dX5_makeSteps_19 : decode cX5_makeSteps 19 = .ok (.invokevirtual 54, 3) := by decide +kernel
theorem dX5_makeSteps_22 : decode cX5_makeSteps 22 = .ok (.iinc 2 1, 3) := by decide +kernel
theorem dX5_makeSteps_25 : decode cX5_makeSteps 25 = .ok (.goto (-23), 3) := by decide +kernel
theorem dX5_makeSteps_28 : decode cX5_makeSteps 28 = .ok (.return_, 1) := by decide +kernel
set_option maxRecDepth 20000 in
theorem ggX5_stepAcross_X1_isOpenAcross : GoodIn wsX5_stepAcross wsX1_isOpenAcross := goodIn_r _ [8, 9, 10, 11, 12, 13, 14, 15, 16, 7, 17, 18, 19, 20, 21, 22, 23, 24, 109, 110, 111, 112, 113, 114, 115, 116, 117] (by decide +kernel) (by decide +kernel)
set_option maxRecDepth 20000 in
theorem gX5_stepAcross_X1_isOpenAcross : GoodIn wsX5_stepAcross (wsV RX5 36 RX1 yX1_isOpenAcross wsX1_isOpenAcross) := goodIn_app (goodIn_of _ (by decide +kernel)) ggX5_stepAcross_X1_isOpenAcross
set_option maxRecDepth 20000 in
theorem ggX5_stepAcross_X5_takeWord : GoodIn wsX5_stepAcross wsX5_takeWord := goodIn_r _ [29, 1, 30, 31, 32, 33, 34, 35, 7, 36, 37, 19, 20, 21, 22, 23, 24, 38, 39, 40, 41, 42, 43, 44, 45, 46, 47, 48, 49, 50, 51, 52, 53, 54, 55, 56, 57, 58, 59, 60, 61, 62, 63, 64, 103, 104, 105, 106, 107, 108, 109, 110, 111, 112, 113, 114, 115, 116, 117, 118, 119, 120, 121, 122, 123, 124, 125] (by decide +kernel) (by decide +kernel)
set_option maxRecDepth 20000 in
theorem gX5_stepAcross_X5_takeWord : GoodIn wsX5_stepAcross (wsV RX5 58 RX5 yX5_takeWord wsX5_takeWord) := goodIn_app (goodIn_of _ (by decide +kernel)) ggX5_stepAcross_X5_takeWord
set_option maxRecDepth 20000 in
theorem ggX5_stepAcross_X5_passLetter : GoodIn wsX5_stepAcross wsX5_passLetter := goodIn_r _ [68, 1, 30, 69, 70, 31, 71, 72, 3, 32, 38, 20, 21, 22, 23, 24, 73, 74, 75, 76, 77, 78, 79, 7, 80, 37, 81, 82, 61, 62, 63, 83, 84, 85, 42, 86, 55, 87, 60, 88, 89, 90, 91, 44, 50, 45, 103, 104, 105, 106, 107, 108, 109, 110, 111, 112, 113, 114, 115, 116, 118, 119, 120, 121, 122, 123, 124, 125, 117] (by decide +kernel) (by decide +kernel)
set_option maxRecDepth 20000 in
theorem gX5_stepAcross_X5_passLetter : GoodIn wsX5_stepAcross (wsV RX5 61 RX5 yX5_passLetter wsX5_passLetter) := goodIn_app (goodIn_of _ (by decide +kernel)) ggX5_stepAcross_X5_passLetter
set_option maxRecDepth 20000 in
theorem ggX5_stepAcross_X5_sendBack : GoodIn wsX5_stepAcross wsX5_sendBack := goodIn_r _ [95, 1, 30, 96, 97, 70, 31, 98, 32, 38, 20, 21, 22, 23, 24, 73, 74, 75, 76, 77, 78, 79, 7, 80, 37, 81, 82, 61, 62, 63, 99, 100, 101, 42, 102, 44, 50, 45, 60, 103, 104, 105, 106, 107, 108, 109, 110, 111, 112, 113, 114, 115, 116, 118, 119, 120, 121, 122, 123, 124, 125, 117] (by decide +kernel) (by decide +kernel)
set_option maxRecDepth 20000 in
theorem gX5_stepAcross_X5_sendBack : GoodIn wsX5_stepAcross (wsV RX5 64 RX5 yX5_sendBack wsX5_sendBack) := goodIn_app (goodIn_of _ (by decide +kernel)) ggX5_stepAcross_X5_sendBack
theorem dX5_stepAcross_0 : decode cX5_stepAcross 0 = .ok (.iconst 1, 1) := by decide +kernel
theorem dX5_stepAcross_1 : decode cX5_stepAcross 1 = .ok (.istore_n 2, 1) := by decide +kernel
theorem dX5_stepAcross_2 : decode cX5_stepAcross 2 = .ok (.iconst 0, 1) := by decide +kernel
theorem dX5_stepAcross_3 : decode cX5_stepAcross 3 = .ok (.istore_n 3, 1) := by decide +kernel
theorem dX5_stepAcross_4 : decode cX5_stepAcross 4 = .ok (.iload_n 3, 1) := by decide +kernel
theorem dX5_stepAcross_5 : decode cX5_stepAcross 5 = .ok (.iconst 4, 1) := by decide +kernel
theorem dX5_stepAcross_6 : decode cX5_stepAcross 6 = .ok (.if_icmp .ge 41, 3) := by decide +kernel
theorem dX5_stepAcross_9 : decode cX5_stepAcross 9 = .ok (.aload_n 0, 1) := by decide +kernel
theorem dX5_stepAcross_10 : decode cX5_stepAcross 10 = .ok (.getfield 21, 3) := by decide +kernel
theorem dX5_stepAcross_13 : decode cX5_stepAcross 13 = .ok (.iload_n 3, 1) := by decide +kernel
theorem dX5_stepAcross_14 : decode cX5_stepAcross 14 = .ok (.iload_n 1, 1) := by decide +kernel
theorem dX5_stepAcross_15 : decode cX5_stepAcross 15 = .ok (.invokevirtual 36, 3) := by decide +kernel
theorem dX5_stepAcross_18 : decode cX5_stepAcross 18 = .ok (.ifCond .eq 18, 3) := by decide +kernel
theorem dX5_stepAcross_21 : decode cX5_stepAcross 21 = .ok (.iconst 0, 1) := by decide +kernel
theorem dX5_stepAcross_22 : decode cX5_stepAcross 22 = .ok (.istore_n 2, 1) := by decide +kernel
theorem dX5_stepAcross_23 : decode cX5_stepAcross 23 = .ok (.aload_n 0, 1) := by decide +kernel
theorem dX5_stepAcross_24 : decode cX5_stepAcross 24 = .ok (.iload_n 3, 1) := by decide +kernel
theorem dX5_stepAcross_25 : decode cX5_stepAcross 25 = .ok (.invokevirtual 58, 3) := by decide +kernel
theorem dX5_stepAcross_28 : decode cX5_stepAcross 28 = .ok (.aload_n 0, 1) := by decide +kernel
theorem dX5_stepAcross_29 : decode cX5_stepAcross 29 = .ok (.iload_n 3, 1) := by decide +kernel
theorem dX5_stepAcross_30 : decode cX5_stepAcross 30 = .ok (.invokevirtual 61, 3) := by decide +kernel
theorem dX5_stepAcross_33 : decode cX5_stepAcross 33 = .ok (.goto 8, 3) := by decide +kernel
theorem dX5_stepAcross_36 : decode cX5_stepAcross 36 = .ok (.aload_n 0, 1) := by decide +kernel
theorem dX5_stepAcross_37 : decode cX5_stepAcross 37 = .ok (.iload_n 3, 1) := by decide +kernel
theorem dX5_stepAcross_38 : decode cX5_stepAcross 38 = .ok (.invokevirtual 64, 3) := by decide +kernel
theorem dX5_stepAcross_41 : decode cX5_stepAcross 41 = .ok (.iinc 3 1, 3) := by decide +kernel
theorem dX5_stepAcross_44 : decode cX5_stepAcross 44 = .ok (.goto (-40), 3) := by decide +kernel
theorem dX5_stepAcross_47 : decode cX5_stepAcross 47 = .ok (.aload_n 0, 1) := by decide +kernel
theorem dX5_stepAcross_48 : decode cX5_stepAcross 48 = .ok (.dup, 1) := by decide +kernel
theorem dX5_stepAcross_49 : decode cX5_stepAcross 49 = .ok (.getfield 67, 3) := by decide +kernel
theorem dX5_stepAcross_52 : decode cX5_stepAcross 52 = .ok (.iload_n 2, 1) := by decide +kernel
theorem dX5_stepAcross_53 : decode cX5_stepAcross 53 = .ok (.ifCond .eq 7, 3) := by decide +kernel
theorem dX5_stepAcross_56 : decode cX5_stepAcross 56 = .ok (.iconst 1, 1) := by decide +kernel
theorem dX5_stepAcross_57 : decode cX5_stepAcross 57 = .ok (.goto 4, 3) := by decide +kernel
theorem dX5_stepAcross_60 : decode cX5_stepAcross 60 = .ok (.iconst 0, 1) := by decide +kernel
theorem dX5_stepAcross_61 : decode cX5_stepAcross 61 = .ok (.iadd, 1) := by decide +kernel
theorem dX5_stepAcross_62 : decode cX5_stepAcross 62 = .ok (.putfield 67, 3) := by decide +kernel
theorem dX5_stepAcross_65 : decode cX5_stepAcross 65 = .ok (.aload_n 0, 1) := by decide +kernel
theorem dX5_stepAcross_66 : decode cX5_stepAcross 66 = .ok (.dup, 1) := by decide +kernel
theorem dX5_stepAcross_67 : decode cX5_stepAcross 67 = .ok (.getfield 40, 3) := by decide +kernel
theorem dX5_stepAcross_70 : decode cX5_stepAcross 70 = .ok (.iconst 1, 1) := by decide +kernel
theorem dX5_stepAcross_71 : decode cX5_stepAcross 71 = .ok (.iadd, 1) := by decide +kernel
theorem dX5_stepAcross_72 : decode cX5_stepAcross 72 = .ok (.putfield 40, 3) := by decide +kernel
theorem dX5_stepAcross_75 : decode cX5_stepAcross 75 = .ok (.return_, 1) := by decide +kernel
set_option maxRecDepth 20000 in
theorem ggX5_takeWord_X1_hasWord : GoodIn wsX5_takeWord wsX1_hasWord := goodIn_r _ [9, 10, 11, 12, 13, 14, 15, 16, 50, 51, 52, 53, 54, 55, 56, 57, 58] (by decide +kernel) (by decide +kernel)
set_option maxRecDepth 20000 in
theorem gX5_takeWord_X1_hasWord : GoodIn wsX5_takeWord (wsV RX5 70 RX1 yX1_hasWord wsX1_hasWord) := goodIn_app (goodIn_of _ (by decide +kernel)) ggX5_takeWord_X1_hasWord
set_option maxRecDepth 20000 in
theorem ggX5_takeWord_X0_get : GoodIn wsX5_takeWord wsX0_get := goodIn_r _ [15, 16, 58] (by decide +kernel) (by decide +kernel)
set_option maxRecDepth 20000 in
theorem gX5_takeWord_X0_get : GoodIn wsX5_takeWord (wsV RX5 81 RX0 yX0_get wsX0_get) := goodIn_app (goodIn_of _ (by decide +kernel)) ggX5_takeWord_X0_get
set_option maxRecDepth 20000 in
theorem ggX5_takeWord_X4_takeWaiting : GoodIn wsX5_takeWord wsX4_takeWaiting := goodIn_r _ [22, 23, 24, 12, 13, 14, 15, 16, 25, 26, 27, 21, 28, 29, 30, 31, 32, 33, 34, 35, 36, 37, 38, 39, 40, 41, 42, 59, 60, 61, 62, 63, 64, 65, 66, 58] (by decide +kernel) (by decide +kernel)
set_option maxRecDepth 20000 in
theorem gX5_takeWord_X4_takeWaiting : GoodIn wsX5_takeWord (wsV RX5 86 RX4 yX4_takeWaiting wsX4_takeWaiting) := goodIn_app (goodIn_of _ (by decide +kernel)) ggX5_takeWord_X4_takeWaiting
set_option maxRecDepth 20000 in
theorem ggX5_takeWord_X0_set : GoodIn wsX5_takeWord wsX0_set := goodIn_r _ [42, 16, 58] (by decide +kernel) (by decide +kernel)
set_option maxRecDepth 20000 in
theorem gX5_takeWord_X0_set : GoodIn wsX5_takeWord (wsV RX5 89 RX0 yX0_set wsX0_set) := goodIn_app (goodIn_of _ (by decide +kernel)) ggX5_takeWord_X0_set
theorem dX5_takeWord_0 : decode cX5_takeWord 0 = .ok (.aload_n 0, 1) := by decide +kernel
theorem dX5_takeWord_1 : decode cX5_takeWord 1 = .ok (.getfield 21, 3) := by decide +kernel
theorem dX5_takeWord_4 : decode cX5_takeWord 4 = .ok (.iload_n 1, 1) := by decide +kernel
theorem dX5_takeWord_5 : decode cX5_takeWord 5 = .ok (.invokevirtual 70, 3) := by decide +kernel
theorem dX5_takeWord_8 : decode cX5_takeWord 8 = .ok (.ifCond .ne 32, 3) := by decide +kernel
theorem dX5_takeWord_11 : decode cX5_takeWord 11 = .ok (.aload_n 0, 1) := by decide +kernel
theorem dX5_takeWord_12 : decode cX5_takeWord 12 = .ok (.getfield 21, 3) := by decide +kernel
theorem dX5_takeWord_15 : decode cX5_takeWord 15 = .ok (.getfield 74, 3) := by decide +kernel
theorem dX5_takeWord_18 : decode cX5_takeWord 18 = .ok (.iload_n 1, 1) := by decide +kernel
theorem dX5_takeWord_19 : decode cX5_takeWord 19 = .ok (.aload_n 0, 1) := by decide +kernel
theorem dX5_takeWord_20 : decode cX5_takeWord 20 = .ok (.getfield 28, 3) := by decide +kernel
theorem dX5_takeWord_23 : decode cX5_takeWord 23 = .ok (.aload_n 0, 1) := by decide +kernel
theorem dX5_takeWord_24 : decode cX5_takeWord 24 = .ok (.getfield 21, 3) := by decide +kernel
theorem dX5_takeWord_27 : decode cX5_takeWord 27 = .ok (.getfield 78, 3) := by decide +kernel
theorem dX5_takeWord_30 : decode cX5_takeWord 30 = .ok (.iload_n 1, 1) := by decide +kernel
theorem dX5_takeWord_31 : decode cX5_takeWord 31 = .ok (.invokevirtual 81, 3) := by decide +kernel
theorem dX5_takeWord_34 : decode cX5_takeWord 34 = .ok (.invokevirtual 86, 3) := by decide +kernel
theorem dX5_takeWord_37 : decode cX5_takeWord 37 = .ok (.invokevirtual 89, 3) := by decide +kernel
theorem dX5_takeWord_40 : decode cX5_takeWord 40 = .ok (.return_, 1) := by decide +kernel
set_option maxRecDepth 20000 in
theorem ggX5_passLetter_X0_get : GoodIn wsX5_passLetter wsX0_get := goodIn_r _ [14, 15, 68] (by decide +kernel) (by decide +kernel)
set_option maxRecDepth 20000 in
theorem gX5_passLetter_X0_get : GoodIn wsX5_passLetter (wsV RX5 81 RX0 yX0_get wsX0_get) := goodIn_app (goodIn_of _ (by decide +kernel)) ggX5_passLetter_X0_get
set_option maxRecDepth 20000 in
theorem ggX5_passLetter_X0_add : GoodIn wsX5_passLetter wsX0_add := goodIn_r _ [19, 15, 68] (by decide +kernel) (by decide +kernel)
set_option maxRecDepth 20000 in
theorem gX5_passLetter_X0_add : GoodIn wsX5_passLetter (wsV RX5 99 RX0 yX0_add wsX0_add) := goodIn_app (goodIn_of _ (by decide +kernel)) ggX5_passLetter_X0_add
set_option maxRecDepth 20000 in
theorem ggX5_passLetter_X1_release : GoodIn wsX5_passLetter wsX1_release := goodIn_r _ [24, 25, 26, 27, 28, 29, 13, 30, 15, 52, 53, 54, 55, 56, 57, 58, 59, 68] (by decide +kernel) (by decide +kernel)
set_option maxRecDepth 20000 in
theorem gX5_passLetter_X1_release : GoodIn wsX5_passLetter (wsV RX5 105 RX1 yX1_release wsX1_release) := goodIn_app (goodIn_of _ (by decide +kernel)) ggX5_passLetter_X1_release
set_option maxRecDepth 20000 in
theorem ggX5_passLetter_X4_markPassed : GoodIn wsX5_passLetter wsX4_markPassed := goodIn_r _ [35, 36, 37, 38, 28, 29, 13, 30, 15, 60, 61, 62, 63, 64, 65, 66, 67, 68] (by decide +kernel) (by decide +kernel)
set_option maxRecDepth 20000 in
theorem gX5_passLetter_X4_markPassed : GoodIn wsX5_passLetter (wsV RX5 111 RX4 yX4_markPassed wsX4_markPassed) := goodIn_app (goodIn_of _ (by decide +kernel)) ggX5_passLetter_X4_markPassed
set_option maxRecDepth 20000 in
theorem ggX5_passLetter_X4_addLast : GoodIn wsX5_passLetter wsX4_addLast := goodIn_r _ [42, 43, 44, 45, 11, 12, 13, 14, 15, 38, 28, 29, 30, 60, 61, 62, 63, 64, 65, 66, 67, 68] (by decide +kernel) (by decide +kernel)
set_option maxRecDepth 20000 in
theorem gX5_passLetter_X4_addLast : GoodIn wsX5_passLetter (wsV RX5 115 RX4 yX4_addLast wsX4_addLast) := goodIn_app (goodIn_of _ (by decide +kernel)) ggX5_passLetter_X4_addLast
theorem dX5_passLetter_0 : decode cX5_passLetter 0 = .ok (.aload_n 0, 1) := by decide +kernel
theorem dX5_passLetter_1 : decode cX5_passLetter 1 = .ok (.getfield 21, 3) := by decide +kernel
theorem dX5_passLetter_4 : decode cX5_passLetter 4 = .ok (.getfield 74, 3) := by decide +kernel
theorem dX5_passLetter_7 : decode cX5_passLetter 7 = .ok (.iload_n 1, 1) := by decide +kernel
theorem dX5_passLetter_8 : decode cX5_passLetter 8 = .ok (.invokevirtual 81, 3) := by decide +kernel
theorem dX5_passLetter_11 : decode cX5_passLetter 11 = .ok (.istore_n 2, 1) := by decide +kernel
theorem dX5_passLetter_12 : decode cX5_passLetter 12 = .ok (.iload_n 2, 1) := by decide +kernel
theorem dX5_passLetter_13 : decode cX5_passLetter 13 = .ok (.sipush (-1006), 3) := by decide +kernel
theorem dX5_passLetter_16 : decode cX5_passLetter 16 = .ok (.if_icmp .ne 4, 3) := by decide +kernel
theorem dX5_passLetter_19 : decode cX5_passLetter 19 = .ok (.return_, 1) := by decide +kernel
theorem dX5_passLetter_20 : decode cX5_passLetter 20 = .ok (.aload_n 0, 1) := by decide +kernel
theorem dX5_passLetter_21 : decode cX5_passLetter 21 = .ok (.dup, 1) := by decide +kernel
theorem dX5_passLetter_22 : decode cX5_passLetter 22 = .ok (.getfield 93, 3) := by decide +kernel
theorem dX5_passLetter_25 : decode cX5_passLetter 25 = .ok (.iconst 1, 1) := by decide +kernel
theorem dX5_passLetter_26 : decode cX5_passLetter 26 = .ok (.iadd, 1) := by decide +kernel
theorem dX5_passLetter_27 : decode cX5_passLetter 27 = .ok (.putfield 93, 3) := by decide +kernel
theorem dX5_passLetter_30 : decode cX5_passLetter 30 = .ok (.aload_n 0, 1) := by decide +kernel
theorem dX5_passLetter_31 : decode cX5_passLetter 31 = .ok (.getfield 21, 3) := by decide +kernel
theorem dX5_passLetter_34 : decode cX5_passLetter 34 = .ok (.getfield 96, 3) := by decide +kernel
theorem dX5_passLetter_37 : decode cX5_passLetter 37 = .ok (.iload_n 1, 1) := by decide +kernel
theorem dX5_passLetter_38 : decode cX5_passLetter 38 = .ok (.iconst 1, 1) := by decide +kernel
theorem dX5_passLetter_39 : decode cX5_passLetter 39 = .ok (.invokevirtual 99, 3) := by decide +kernel
theorem dX5_passLetter_42 : decode cX5_passLetter 42 = .ok (.aload_n 0, 1) := by decide +kernel
theorem dX5_passLetter_43 : decode cX5_passLetter 43 = .ok (.getfield 21, 3) := by decide +kernel
theorem dX5_passLetter_46 : decode cX5_passLetter 46 = .ok (.getfield 96, 3) := by decide +kernel
theorem dX5_passLetter_49 : decode cX5_passLetter 49 = .ok (.iload_n 1, 1) := by decide +kernel
theorem dX5_passLetter_50 : decode cX5_passLetter 50 = .ok (.invokevirtual 81, 3) := by decide +kernel
theorem dX5_passLetter_53 : decode cX5_passLetter 53 = .ok (.aload_n 0, 1) := by decide +kernel
theorem dX5_passLetter_54 : decode cX5_passLetter 54 = .ok (.getfield 28, 3) := by decide +kernel
theorem dX5_passLetter_57 : decode cX5_passLetter 57 = .ok (.getfield 102, 3) := by decide +kernel
theorem dX5_passLetter_60 : decode cX5_passLetter 60 = .ok (.iload_n 2, 1) := by decide +kernel
theorem dX5_passLetter_61 : decode cX5_passLetter 61 = .ok (.invokevirtual 81, 3) := by decide +kernel
theorem dX5_passLetter_64 : decode cX5_passLetter 64 = .ok (.if_icmp .ge 4, 3) := by decide +kernel
theorem dX5_passLetter_67 : decode cX5_passLetter 67 = .ok (.return_, 1) := by decide +kernel
theorem dX5_passLetter_68 : decode cX5_passLetter 68 = .ok (.aload_n 0, 1) := by decide +kernel
theorem dX5_passLetter_69 : decode cX5_passLetter 69 = .ok (.getfield 21, 3) := by decide +kernel
theorem dX5_passLetter_72 : decode cX5_passLetter 72 = .ok (.iload_n 1, 1) := by decide +kernel
theorem dX5_passLetter_73 : decode cX5_passLetter 73 = .ok (.invokevirtual 105, 3) := by decide +kernel
theorem dX5_passLetter_76 : decode cX5_passLetter 76 = .ok (.aload_n 0, 1) := by decide +kernel
theorem dX5_passLetter_77 : decode cX5_passLetter 77 = .ok (.getfield 21, 3) := by decide +kernel
theorem dX5_passLetter_80 : decode cX5_passLetter 80 = .ok (.getfield 108, 3) := by decide +kernel
theorem dX5_passLetter_83 : decode cX5_passLetter 83 = .ok (.iload_n 1, 1) := by decide +kernel
theorem dX5_passLetter_84 : decode cX5_passLetter 84 = .ok (.iconst 1, 1) := by decide +kernel
theorem dX5_passLetter_85 : decode cX5_passLetter 85 = .ok (.invokevirtual 99, 3) := by decide +kernel
theorem dX5_passLetter_88 : decode cX5_passLetter 88 = .ok (.aload_n 0, 1) := by decide +kernel
theorem dX5_passLetter_89 : decode cX5_passLetter 89 = .ok (.getfield 28, 3) := by decide +kernel
theorem dX5_passLetter_92 : decode cX5_passLetter 92 = .ok (.iload_n 2, 1) := by decide +kernel
theorem dX5_passLetter_93 : decode cX5_passLetter 93 = .ok (.aload_n 0, 1) := by decide +kernel
theorem dX5_passLetter_94 : decode cX5_passLetter 94 = .ok (.getfield 40, 3) := by decide +kernel
theorem dX5_passLetter_97 : decode cX5_passLetter 97 = .ok (.iload_n 1, 1) := by decide +kernel
theorem dX5_passLetter_98 : decode cX5_passLetter 98 = .ok (.invokevirtual 111, 3) := by decide +kernel
theorem dX5_passLetter_101 : decode cX5_passLetter 101 = .ok (.aload_n 0, 1) := by decide +kernel
theorem dX5_passLetter_102 : decode cX5_passLetter 102 = .ok (.getfield 28, 3) := by decide +kernel
theorem dX5_passLetter_105 : decode cX5_passLetter 105 = .ok (.iconst 1, 1) := by decide +kernel
theorem dX5_passLetter_106 : decode cX5_passLetter 106 = .ok (.aload_n 0, 1) := by decide +kernel
theorem dX5_passLetter_107 : decode cX5_passLetter 107 = .ok (.getfield 21, 3) := by decide +kernel
theorem dX5_passLetter_110 : decode cX5_passLetter 110 = .ok (.getfield 78, 3) := by decide +kernel
theorem dX5_passLetter_113 : decode cX5_passLetter 113 = .ok (.iload_n 1, 1) := by decide +kernel
theorem dX5_passLetter_114 : decode cX5_passLetter 114 = .ok (.invokevirtual 81, 3) := by decide +kernel
theorem dX5_passLetter_117 : decode cX5_passLetter 117 = .ok (.isub, 1) := by decide +kernel
theorem dX5_passLetter_118 : decode cX5_passLetter 118 = .ok (.iload_n 2, 1) := by decide +kernel
theorem dX5_passLetter_119 : decode cX5_passLetter 119 = .ok (.invokevirtual 115, 3) := by decide +kernel
theorem dX5_passLetter_122 : decode cX5_passLetter 122 = .ok (.return_, 1) := by decide +kernel
set_option maxRecDepth 20000 in
theorem ggX5_sendBack_X0_get : GoodIn wsX5_sendBack wsX0_get := goodIn_r _ [13, 14, 61] (by decide +kernel) (by decide +kernel)
set_option maxRecDepth 20000 in
theorem gX5_sendBack_X0_get : GoodIn wsX5_sendBack (wsV RX5 81 RX0 yX0_get wsX0_get) := goodIn_app (goodIn_of _ (by decide +kernel)) ggX5_sendBack_X0_get
set_option maxRecDepth 20000 in
theorem ggX5_sendBack_X0_add : GoodIn wsX5_sendBack wsX0_add := goodIn_r _ [18, 14, 61] (by decide +kernel) (by decide +kernel)
set_option maxRecDepth 20000 in
theorem gX5_sendBack_X0_add : GoodIn wsX5_sendBack (wsV RX5 99 RX0 yX0_add wsX0_add) := goodIn_app (goodIn_of _ (by decide +kernel)) ggX5_sendBack_X0_add
set_option maxRecDepth 20000 in
theorem ggX5_sendBack_X1_release : GoodIn wsX5_sendBack wsX1_release := goodIn_r _ [23, 24, 25, 26, 27, 28, 12, 29, 14, 45, 46, 47, 48, 49, 50, 51, 52, 61] (by decide +kernel) (by decide +kernel)
set_option maxRecDepth 20000 in
theorem gX5_sendBack_X1_release : GoodIn wsX5_sendBack (wsV RX5 105 RX1 yX1_release wsX1_release) := goodIn_app (goodIn_of _ (by decide +kernel)) ggX5_sendBack_X1_release
set_option maxRecDepth 20000 in
theorem ggX5_sendBack_X4_addFirst : GoodIn wsX5_sendBack wsX4_addFirst := goodIn_r _ [34, 35, 36, 37, 10, 11, 12, 13, 14, 38, 27, 28, 29, 53, 54, 55, 56, 57, 58, 59, 60, 61] (by decide +kernel) (by decide +kernel)
set_option maxRecDepth 20000 in
theorem gX5_sendBack_X4_addFirst : GoodIn wsX5_sendBack (wsV RX5 127 RX4 yX4_addFirst wsX4_addFirst) := goodIn_app (goodIn_of _ (by decide +kernel)) ggX5_sendBack_X4_addFirst
theorem dX5_sendBack_0 : decode cX5_sendBack 0 = .ok (.aload_n 0, 1) := by decide +kernel
theorem dX5_sendBack_1 : decode cX5_sendBack 1 = .ok (.getfield 21, 3) := by decide +kernel
theorem dX5_sendBack_4 : decode cX5_sendBack 4 = .ok (.getfield 74, 3) := by decide +kernel
theorem dX5_sendBack_7 : decode cX5_sendBack 7 = .ok (.iload_n 1, 1) := by decide +kernel
theorem dX5_sendBack_8 : decode cX5_sendBack 8 = .ok (.invokevirtual 81, 3) := by decide +kernel
theorem dX5_sendBack_11 : decode cX5_sendBack 11 = .ok (.istore_n 2, 1) := by decide +kernel
theorem dX5_sendBack_12 : decode cX5_sendBack 12 = .ok (.iload_n 2, 1) := by decide +kernel
theorem dX5_sendBack_13 : decode cX5_sendBack 13 = .ok (.sipush (-1006), 3) := by decide +kernel
theorem dX5_sendBack_16 : decode cX5_sendBack 16 = .ok (.if_icmp .eq 18, 3) := by decide +kernel
theorem dX5_sendBack_19 : decode cX5_sendBack 19 = .ok (.aload_n 0, 1) := by decide +kernel
theorem dX5_sendBack_20 : decode cX5_sendBack 20 = .ok (.getfield 21, 3) := by decide +kernel
theorem dX5_sendBack_23 : decode cX5_sendBack 23 = .ok (.getfield 118, 3) := by decide +kernel
theorem dX5_sendBack_26 : decode cX5_sendBack 26 = .ok (.iload_n 1, 1) := by decide +kernel
theorem dX5_sendBack_27 : decode cX5_sendBack 27 = .ok (.invokevirtual 81, 3) := by decide +kernel
theorem dX5_sendBack_30 : decode cX5_sendBack 30 = .ok (.iconst 1, 1) := by decide +kernel
theorem dX5_sendBack_31 : decode cX5_sendBack 31 = .ok (.if_icmp .ne 4, 3) := by decide +kernel
theorem dX5_sendBack_34 : decode cX5_sendBack 34 = .ok (.return_, 1) := by decide +kernel
theorem dX5_sendBack_35 : decode cX5_sendBack 35 = .ok (.aload_n 0, 1) := by decide +kernel
theorem dX5_sendBack_36 : decode cX5_sendBack 36 = .ok (.getfield 21, 3) := by decide +kernel
theorem dX5_sendBack_39 : decode cX5_sendBack 39 = .ok (.getfield 121, 3) := by decide +kernel
theorem dX5_sendBack_42 : decode cX5_sendBack 42 = .ok (.iload_n 1, 1) := by decide +kernel
theorem dX5_sendBack_43 : decode cX5_sendBack 43 = .ok (.aload_n 0, 1) := by decide +kernel
theorem dX5_sendBack_44 : decode cX5_sendBack 44 = .ok (.getfield 21, 3) := by decide +kernel
theorem dX5_sendBack_47 : decode cX5_sendBack 47 = .ok (.getfield 96, 3) := by decide +kernel
theorem dX5_sendBack_50 : decode cX5_sendBack 50 = .ok (.iload_n 1, 1) := by decide +kernel
theorem dX5_sendBack_51 : decode cX5_sendBack 51 = .ok (.invokevirtual 81, 3) := by decide +kernel
theorem dX5_sendBack_54 : decode cX5_sendBack 54 = .ok (.invokevirtual 99, 3) := by decide +kernel
theorem dX5_sendBack_57 : decode cX5_sendBack 57 = .ok (.aload_n 0, 1) := by decide +kernel
theorem dX5_sendBack_58 : decode cX5_sendBack 58 = .ok (.getfield 21, 3) := by decide +kernel
theorem dX5_sendBack_61 : decode cX5_sendBack 61 = .ok (.iload_n 1, 1) := by decide +kernel
theorem dX5_sendBack_62 : decode cX5_sendBack 62 = .ok (.invokevirtual 105, 3) := by decide +kernel
theorem dX5_sendBack_65 : decode cX5_sendBack 65 = .ok (.aload_n 0, 1) := by decide +kernel
theorem dX5_sendBack_66 : decode cX5_sendBack 66 = .ok (.getfield 28, 3) := by decide +kernel
theorem dX5_sendBack_69 : decode cX5_sendBack 69 = .ok (.getfield 124, 3) := by decide +kernel
theorem dX5_sendBack_72 : decode cX5_sendBack 72 = .ok (.iload_n 2, 1) := by decide +kernel
theorem dX5_sendBack_73 : decode cX5_sendBack 73 = .ok (.iconst 1, 1) := by decide +kernel
theorem dX5_sendBack_74 : decode cX5_sendBack 74 = .ok (.invokevirtual 99, 3) := by decide +kernel
theorem dX5_sendBack_77 : decode cX5_sendBack 77 = .ok (.aload_n 0, 1) := by decide +kernel
theorem dX5_sendBack_78 : decode cX5_sendBack 78 = .ok (.getfield 28, 3) := by decide +kernel
theorem dX5_sendBack_81 : decode cX5_sendBack 81 = .ok (.aload_n 0, 1) := by decide +kernel
theorem dX5_sendBack_82 : decode cX5_sendBack 82 = .ok (.getfield 21, 3) := by decide +kernel
theorem dX5_sendBack_85 : decode cX5_sendBack 85 = .ok (.getfield 78, 3) := by decide +kernel
theorem dX5_sendBack_88 : decode cX5_sendBack 88 = .ok (.iload_n 1, 1) := by decide +kernel
theorem dX5_sendBack_89 : decode cX5_sendBack 89 = .ok (.invokevirtual 81, 3) := by decide +kernel
theorem dX5_sendBack_92 : decode cX5_sendBack 92 = .ok (.iload_n 2, 1) := by decide +kernel
theorem dX5_sendBack_93 : decode cX5_sendBack 93 = .ok (.invokevirtual 127, 3) := by decide +kernel
theorem dX5_sendBack_96 : decode cX5_sendBack 96 = .ok (.return_, 1) := by decide +kernel
set_option maxRecDepth 20000 in
theorem ggX5_tally_X0_sum : GoodIn wsX5_tally wsX0_sum := goodIn_r _ [11, 12, 35] (by decide +kernel) (by decide +kernel)
set_option maxRecDepth 20000 in
theorem gX5_tally_X0_sum : GoodIn wsX5_tally (wsV RX5 130 RX0 yX0_sum wsX0_sum) := goodIn_app (goodIn_of _ (by decide +kernel)) ggX5_tally_X0_sum
theorem dX5_tally_0 : decode cX5_tally 0 = .ok (.iload_n 1, 1) := by decide +kernel
theorem dX5_tally_1 : decode cX5_tally 1 = .ok (.tableswitch 60 0 2 #[27, 38, 49], 27) := by decide +kernel
theorem dX5_tally_28 : decode cX5_tally 28 = .ok (.aload_n 0, 1) := by decide +kernel
theorem dX5_tally_29 : decode cX5_tally 29 = .ok (.getfield 21, 3) := by decide +kernel
theorem dX5_tally_32 : decode cX5_tally 32 = .ok (.getfield 108, 3) := by decide +kernel
theorem dX5_tally_35 : decode cX5_tally 35 = .ok (.invokevirtual 130, 3) := by decide +kernel
theorem dX5_tally_38 : decode cX5_tally 38 = .ok (.ireturn, 1) := by decide +kernel
theorem dX5_tally_39 : decode cX5_tally 39 = .ok (.aload_n 0, 1) := by decide +kernel
theorem dX5_tally_40 : decode cX5_tally 40 = .ok (.getfield 21, 3) := by decide +kernel
theorem dX5_tally_43 : decode cX5_tally 43 = .ok (.getfield 121, 3) := by decide +kernel
theorem dX5_tally_46 : decode cX5_tally 46 = .ok (.invokevirtual 130, 3) := by decide +kernel
theorem dX5_tally_49 : decode cX5_tally 49 = .ok (.ireturn, 1) := by decide +kernel
theorem dX5_tally_50 : decode cX5_tally 50 = .ok (.aload_n 0, 1) := by decide +kernel
theorem dX5_tally_51 : decode cX5_tally 51 = .ok (.getfield 28, 3) := by decide +kernel
theorem dX5_tally_54 : decode cX5_tally 54 = .ok (.getfield 124, 3) := by decide +kernel
theorem dX5_tally_57 : decode cX5_tally 57 = .ok (.invokevirtual 130, 3) := by decide +kernel
theorem dX5_tally_60 : decode cX5_tally 60 = .ok (.ireturn, 1) := by decide +kernel
theorem dX5_tally_61 : decode cX5_tally 61 = .ok (.aload_n 0, 1) := by decide +kernel
theorem dX5_tally_62 : decode cX5_tally 62 = .ok (.getfield 67, 3) := by decide +kernel
theorem dX5_tally_65 : decode cX5_tally 65 = .ok (.ireturn, 1) := by decide +kernel
set_option maxRecDepth 20000 in
theorem ggX5_copyFrom_X3_copyFrom : GoodIn wsX5_copyFrom wsX3_copyFrom := goodIn_r _ [11, 12, 13, 14, 15, 16, 17, 18, 19, 20, 21, 22, 23, 24, 25, 26, 27, 28, 29, 64, 65, 66, 67, 68] (by decide +kernel) (by decide +kernel)
set_option maxRecDepth 20000 in
theorem gX5_copyFrom_X3_copyFrom : GoodIn wsX5_copyFrom (wsV RX5 134 RX3 yX3_copyFrom wsX3_copyFrom) := goodIn_app (goodIn_of _ (by decide +kernel)) ggX5_copyFrom_X3_copyFrom
set_option maxRecDepth 20000 in
theorem ggX5_copyFrom_X1_copyFrom : GoodIn wsX5_copyFrom wsX1_copyFrom := goodIn_r _ [34, 35, 36, 37, 38, 39, 40, 41, 42, 43, 17, 18, 19, 20, 21, 22, 23, 24, 25, 26, 27, 28, 29, 69, 70, 71, 72, 73, 74, 75, 76, 68] (by decide +kernel) (by decide +kernel)
set_option maxRecDepth 20000 in
theorem gX5_copyFrom_X1_copyFrom : GoodIn wsX5_copyFrom (wsV RX5 138 RX1 yX1_copyFrom wsX1_copyFrom) := goodIn_app (goodIn_of _ (by decide +kernel)) ggX5_copyFrom_X1_copyFrom
set_option maxRecDepth 20000 in
theorem ggX5_copyFrom_X4_copyFrom : GoodIn wsX5_copyFrom wsX4_copyFrom := goodIn_r _ [48, 49, 50, 51, 52, 53, 54, 55, 56, 57, 17, 18, 19, 20, 21, 22, 23, 24, 25, 26, 27, 28, 29, 77, 78, 79, 80, 81, 82, 83, 84, 68] (by decide +kernel) (by decide +kernel)
set_option maxRecDepth 20000 in
theorem gX5_copyFrom_X4_copyFrom : GoodIn wsX5_copyFrom (wsV RX5 141 RX4 yX4_copyFrom wsX4_copyFrom) := goodIn_app (goodIn_of _ (by decide +kernel)) ggX5_copyFrom_X4_copyFrom
theorem dX5_copyFrom_0 : decode cX5_copyFrom 0 = .ok (.aload_n 1, 1) := by decide +kernel
theorem dX5_copyFrom_1 : decode cX5_copyFrom 1 = .ok (.ifnull 60, 3) := by decide +kernel
theorem dX5_copyFrom_4 : decode cX5_copyFrom 4 = .ok (.aload_n 0, 1) := by decide +kernel
theorem dX5_copyFrom_5 : decode cX5_copyFrom 5 = .ok (.getfield 12, 3) := by decide +kernel
theorem dX5_copyFrom_8 : decode cX5_copyFrom 8 = .ok (.aload_n 1, 1) := by decide +kernel
theorem dX5_copyFrom_9 : decode cX5_copyFrom 9 = .ok (.getfield 12, 3) := by decide +kernel
theorem dX5_copyFrom_12 : decode cX5_copyFrom 12 = .ok (.invokevirtual 134, 3) := by decide +kernel
theorem dX5_copyFrom_15 : decode cX5_copyFrom 15 = .ok (.aload_n 0, 1) := by decide +kernel
theorem dX5_copyFrom_16 : decode cX5_copyFrom 16 = .ok (.getfield 21, 3) := by decide +kernel
theorem dX5_copyFrom_19 : decode cX5_copyFrom 19 = .ok (.aload_n 1, 1) := by decide +kernel
theorem dX5_copyFrom_20 : decode cX5_copyFrom 20 = .ok (.getfield 21, 3) := by decide +kernel
theorem dX5_copyFrom_23 : decode cX5_copyFrom 23 = .ok (.invokevirtual 138, 3) := by decide +kernel
theorem dX5_copyFrom_26 : decode cX5_copyFrom 26 = .ok (.aload_n 0, 1) := by decide +kernel
theorem dX5_copyFrom_27 : decode cX5_copyFrom 27 = .ok (.getfield 28, 3) := by decide +kernel
theorem dX5_copyFrom_30 : decode cX5_copyFrom 30 = .ok (.aload_n 1, 1) := by decide +kernel
theorem dX5_copyFrom_31 : decode cX5_copyFrom 31 = .ok (.getfield 28, 3) := by decide +kernel
theorem dX5_copyFrom_34 : decode cX5_copyFrom 34 = .ok (.invokevirtual 141, 3) := by decide +kernel
theorem dX5_copyFrom_37 : decode cX5_copyFrom 37 = .ok (.aload_n 0, 1) := by decide +kernel
theorem dX5_copyFrom_38 : decode cX5_copyFrom 38 = .ok (.aload_n 1, 1) := by decide +kernel
theorem dX5_copyFrom_39 : decode cX5_copyFrom 39 = .ok (.getfield 40, 3) := by decide +kernel
theorem dX5_copyFrom_42 : decode cX5_copyFrom 42 = .ok (.putfield 40, 3) := by decide +kernel
theorem dX5_copyFrom_45 : decode cX5_copyFrom 45 = .ok (.aload_n 0, 1) := by decide +kernel
theorem dX5_copyFrom_46 : decode cX5_copyFrom 46 = .ok (.aload_n 1, 1) := by decide +kernel
theorem dX5_copyFrom_47 : decode cX5_copyFrom 47 = .ok (.getfield 93, 3) := by decide +kernel
theorem dX5_copyFrom_50 : decode cX5_copyFrom 50 = .ok (.putfield 93, 3) := by decide +kernel
theorem dX5_copyFrom_53 : decode cX5_copyFrom 53 = .ok (.aload_n 0, 1) := by decide +kernel
theorem dX5_copyFrom_54 : decode cX5_copyFrom 54 = .ok (.aload_n 1, 1) := by decide +kernel
theorem dX5_copyFrom_55 : decode cX5_copyFrom 55 = .ok (.getfield 67, 3) := by decide +kernel
theorem dX5_copyFrom_58 : decode cX5_copyFrom 58 = .ok (.putfield 67, 3) := by decide +kernel
theorem dX5_copyFrom_61 : decode cX5_copyFrom 61 = .ok (.return_, 1) := by decide +kernel
theorem dJ9_abs_0f7a4_0 : decode cJ9_abs_0f7a4 0 = .ok (.iload_n 0, 1) := by decide +kernel
theorem dJ9_abs_0f7a4_1 : decode cJ9_abs_0f7a4 1 = .ok (.ifCond .ge 8, 3) := by decide +kernel
theorem dJ9_abs_0f7a4_4 : decode cJ9_abs_0f7a4 4 = .ok (.iload_n 0, 1) := by decide +kernel
theorem dJ9_abs_0f7a4_5 : decode cJ9_abs_0f7a4 5 = .ok (.ineg, 1) := by decide +kernel
theorem dJ9_abs_0f7a4_6 : decode cJ9_abs_0f7a4 6 = .ok (.goto 4, 3) := by decide +kernel
theorem dJ9_abs_0f7a4_9 : decode cJ9_abs_0f7a4 9 = .ok (.iload_n 0, 1) := by decide +kernel
theorem dJ9_abs_0f7a4_10 : decode cJ9_abs_0f7a4 10 = .ok (.ireturn, 1) := by decide +kernel
theorem dJ9_max_7cf53_0 : decode cJ9_max_7cf53 0 = .ok (.iload_n 0, 1) := by decide +kernel
theorem dJ9_max_7cf53_1 : decode cJ9_max_7cf53 1 = .ok (.iload_n 1, 1) := by decide +kernel
theorem dJ9_max_7cf53_2 : decode cJ9_max_7cf53 2 = .ok (.if_icmp .lt 7, 3) := by decide +kernel
theorem dJ9_max_7cf53_5 : decode cJ9_max_7cf53 5 = .ok (.iload_n 0, 1) := by decide +kernel
theorem dJ9_max_7cf53_6 : decode cJ9_max_7cf53 6 = .ok (.goto 4, 3) := by decide +kernel
theorem dJ9_max_7cf53_9 : decode cJ9_max_7cf53 9 = .ok (.iload_n 1, 1) := by decide +kernel
theorem dJ9_max_7cf53_10 : decode cJ9_max_7cf53 10 = .ok (.ireturn, 1) := by decide +kernel
theorem dJ9_min_7cf53_0 : decode cJ9_min_7cf53 0 = .ok (.iload_n 0, 1) := by decide +kernel
theorem dJ9_min_7cf53_1 : decode cJ9_min_7cf53 1 = .ok (.iload_n 1, 1) := by decide +kernel
theorem dJ9_min_7cf53_2 : decode cJ9_min_7cf53 2 = .ok (.if_icmp .gt 7, 3) := by decide +kernel
theorem dJ9_min_7cf53_5 : decode cJ9_min_7cf53 5 = .ok (.iload_n 0, 1) := by decide +kernel
theorem dJ9_min_7cf53_6 : decode cJ9_min_7cf53 6 = .ok (.goto 4, 3) := by decide +kernel
theorem dJ9_min_7cf53_9 : decode cJ9_min_7cf53 9 = .ok (.iload_n 1, 1) := by decide +kernel
theorem dJ9_min_7cf53_10 : decode cJ9_min_7cf53 10 = .ok (.ireturn, 1) := by decide +kernel
end
section
set_option maxRecDepth 20000 in
theorem ggX6_init_X5_init : GoodIn wsX6_init wsX5_init := goodIn_r _ [21, 22, 2, 3, 23, 24, 25, 26, 27, 28, 29, 30, 31, 32, 33, 34, 35, 36, 37, 38, 39, 16, 17, 40, 41, 42, 43, 44, 45, 46, 47, 48, 49, 50, 51, 52, 53, 54, 55, 56, 57, 58, 59, 60, 61, 62, 63, 64, 65, 66, 67, 68, 69, 70, 71, 72, 73, 74, 75, 76, 77, 78, 79, 80, 81, 82, 83, 84, 85, 86, 87, 88, 89, 90, 91, 92, 118, 119, 120, 121, 100, 101, 102, 103, 104, 105, 122, 123, 124, 125, 126, 127, 128, 129, 130, 131, 132, 133, 134, 135, 136, 137, 117] (by decide +kernel) (by decide +kernel)
set_option maxRecDepth 20000 in
theorem gX6_init_X5_init_n9 : GoodIn wsX6_init (wsX5_init) := ggX6_init_X5_init
set_option maxRecDepth 20000 in
theorem ggX6_init_X2_init : GoodIn wsX6_init wsX2_init := goodIn_r _ [94, 95, 2, 3, 96, 16, 17, 97, 98, 45, 46, 47, 48, 49, 50, 51, 52, 53, 117, 115, 116] (by decide +kernel) (by decide +kernel)
set_option maxRecDepth 20000 in
theorem gX6_init_X2_init_n21 : GoodIn wsX6_init (wsX2_init) := ggX6_init_X2_init
set_option maxRecDepth 20000 in
theorem ggX6_init_X0_init : GoodIn wsX6_init wsX0_init := goodIn_r _ [46, 47, 2, 3, 48, 49, 50, 51, 52, 53, 117] (by decide +kernel) (by decide +kernel)
set_option maxRecDepth 20000 in
theorem gX6_init_X0_init : GoodIn wsX6_init (wsX0_init) := ggX6_init_X0_init
theorem dX6_init_0 : decode cX6_init 0 = .ok (.aload_n 0, 1) := by decide +kernel
theorem dX6_init_1 : decode cX6_init 1 = .ok (.invokespecial 1, 3) := by decide +kernel
theorem dX6_init_4 : decode cX6_init 4 = .ok (.aload_n 0, 1) := by decide +kernel
theorem dX6_init_5 : decode cX6_init 5 = .ok (.new 7, 3) := by decide +kernel
theorem dX6_init_8 : decode cX6_init 8 = .ok (.dup, 1) := by decide +kernel
theorem dX6_init_9 : decode cX6_init 9 = .ok (.invokespecial 9, 3) := by decide +kernel
theorem dX6_init_12 : decode cX6_init 12 = .ok (.putfield 10, 3) := by decide +kernel
theorem dX6_init_15 : decode cX6_init 15 = .ok (.aload_n 0, 1) := by decide +kernel
theorem dX6_init_16 : decode cX6_init 16 = .ok (.new 7, 3) := by decide +kernel
theorem dX6_init_19 : decode cX6_init 19 = .ok (.dup, 1) := by decide +kernel
theorem dX6_init_20 : decode cX6_init 20 = .ok (.invokespecial 9, 3) := by decide +kernel
theorem dX6_init_23 : decode cX6_init 23 = .ok (.putfield 16, 3) := by decide +kernel
theorem dX6_init_26 : decode cX6_init 26 = .ok (.aload_n 0, 1) := by decide +kernel
theorem dX6_init_27 : decode cX6_init 27 = .ok (.new 19, 3) := by decide +kernel
theorem dX6_init_30 : decode cX6_init 30 = .ok (.dup, 1) := by decide +kernel
theorem dX6_init_31 : decode cX6_init 31 = .ok (.invokespecial 21, 3) := by decide +kernel
theorem dX6_init_34 : decode cX6_init 34 = .ok (.putfield 22, 3) := by decide +kernel
theorem dX6_init_37 : decode cX6_init 37 = .ok (.aload_n 0, 1) := by decide +kernel
theorem dX6_init_38 : decode cX6_init 38 = .ok (.bipush 6, 2) := by decide +kernel
theorem dX6_init_40 : decode cX6_init 40 = .ok (.anewarray 7, 3) := by decide +kernel
theorem dX6_init_43 : decode cX6_init 43 = .ok (.putfield 26, 3) := by decide +kernel
theorem dX6_init_46 : decode cX6_init 46 = .ok (.iconst 0, 1) := by decide +kernel
theorem dX6_init_47 : decode cX6_init 47 = .ok (.istore_n 1, 1) := by decide +kernel
theorem dX6_init_48 : decode cX6_init 48 = .ok (.iload_n 1, 1) := by decide +kernel
theorem dX6_init_49 : decode cX6_init 49 = .ok (.aload_n 0, 1) := by decide +kernel
theorem dX6_init_50 : decode cX6_init 50 = .ok (.getfield 26, 3) := by decide +kernel
theorem dX6_init_53 : decode cX6_init 53 = .ok (.arraylength, 1) := by decide +kernel
theorem dX6_init_54 : decode cX6_init 54 = .ok (.if_icmp .ge 22, 3) := by decide +kernel
theorem dX6_init_57 : decode cX6_init 57 = .ok (.aload_n 0, 1) := by decide +kernel
theorem dX6_init_58 : decode cX6_init 58 = .ok (.getfield 26, 3) := by decide +kernel
theorem dX6_init_61 : decode cX6_init 61 = .ok (.iload_n 1, 1) := by decide +kernel
theorem dX6_init_62 : decode cX6_init 62 = .ok (.new 7, 3) := by decide +kernel
theorem dX6_init_65 : decode cX6_init 65 = .ok (.dup, 1) := by decide +kernel
theorem dX6_init_66 : decode cX6_init 66 = .ok (.invokespecial 9, 3) := by decide +kernel
theorem dX6_init_69 : decode cX6_init 69 = .ok (.aastore, 1) := by decide +kernel
theorem dX6_init_70 : decode cX6_init 70 = .ok (.iinc 1 1, 3) := by decide +kernel
theorem dX6_init_73 : decode cX6_init 73 = .ok (.goto (-25), 3) := by decide +kernel
theorem dX6_init_76 : decode cX6_init 76 = .ok (.aload_n 0, 1) := by decide +kernel
theorem dX6_init_77 : decode cX6_init 77 = .ok (.iconst 2, 1) := by decide +kernel
theorem dX6_init_78 : decode cX6_init 78 = .ok (.anewarray 7, 3) := by decide +kernel
theorem dX6_init_81 : decode cX6_init 81 = .ok (.putfield 30, 3) := by decide +kernel
theorem dX6_init_84 : decode cX6_init 84 = .ok (.iconst 0, 1) := by decide +kernel
theorem dX6_init_85 : decode cX6_init 85 = .ok (.istore_n 1, 1) := by decide +kernel
theorem dX6_init_86 : decode cX6_init 86 = .ok (.iload_n 1, 1) := by decide +kernel
theorem dX6_init_87 : decode cX6_init 87 = .ok (.aload_n 0, 1) := by decide +kernel
theorem dX6_init_88 : decode cX6_init 88 = .ok (.getfield 30, 3) := by decide +kernel
theorem dX6_init_91 : decode cX6_init 91 = .ok (.arraylength, 1) := by decide +kernel
theorem dX6_init_92 : decode cX6_init 92 = .ok (.if_icmp .ge 22, 3) := by decide +kernel
theorem dX6_init_95 : decode cX6_init 95 = .ok (.aload_n 0, 1) := by decide +kernel
theorem dX6_init_96 : decode cX6_init 96 = .ok (.getfield 30, 3) := by decide +kernel
theorem dX6_init_99 : decode cX6_init 99 = .ok (.iload_n 1, 1) := by decide +kernel
theorem dX6_init_100 : decode cX6_init 100 = .ok (.new 7, 3) := by decide +kernel
theorem dX6_init_103 : decode cX6_init 103 = .ok (.dup, 1) := by decide +kernel
theorem dX6_init_104 : decode cX6_init 104 = .ok (.invokespecial 9, 3) := by decide +kernel
theorem dX6_init_107 : decode cX6_init 107 = .ok (.aastore, 1) := by decide +kernel
theorem dX6_init_108 : decode cX6_init 108 = .ok (.iinc 1 1, 3) := by decide +kernel
theorem dX6_init_111 : decode cX6_init 111 = .ok (.goto (-25), 3) := by decide +kernel
theorem dX6_init_114 : decode cX6_init 114 = .ok (.aload_n 0, 1) := by decide +kernel
theorem dX6_init_115 : decode cX6_init 115 = .ok (.new 33, 3) := by decide +kernel
theorem dX6_init_118 : decode cX6_init 118 = .ok (.dup, 1) := by decide +kernel
theorem dX6_init_119 : decode cX6_init 119 = .ok (.iconst 2, 1) := by decide +kernel
theorem dX6_init_120 : decode cX6_init 120 = .ok (.invokespecial 35, 3) := by decide +kernel
theorem dX6_init_123 : decode cX6_init 123 = .ok (.putfield 38, 3) := by decide +kernel
theorem dX6_init_126 : decode cX6_init 126 = .ok (.aload_n 0, 1) := by decide +kernel
theorem dX6_init_127 : decode cX6_init 127 = .ok (.new 33, 3) := by decide +kernel
theorem dX6_init_130 : decode cX6_init 130 = .ok (.dup, 1) := by decide +kernel
theorem dX6_init_131 : decode cX6_init 131 = .ok (.sipush 200, 3) := by decide +kernel
theorem dX6_init_134 : decode cX6_init 134 = .ok (.invokespecial 35, 3) := by decide +kernel
theorem dX6_init_137 : decode cX6_init 137 = .ok (.putfield 42, 3) := by decide +kernel
theorem dX6_init_140 : decode cX6_init 140 = .ok (.return_, 1) := by decide +kernel
set_option maxRecDepth 20000 in
theorem ggX6_tide_X6_isStore : GoodIn wsX6_tide wsX6_isStore := goodIn_r _ [7, 8, 9, 6, 10] (by decide +kernel) (by decide +kernel)
set_option maxRecDepth 20000 in
theorem gX6_tide_X6_isStore : GoodIn wsX6_tide (va_wsS RX6 45 yX6_isStore wsX6_isStore) := goodIn_app (goodIn_of _ (by decide +kernel)) ggX6_tide_X6_isStore
set_option maxRecDepth 20000 in
theorem ggX6_tide_X6_isWithin : GoodIn wsX6_tide wsX6_isWithin := goodIn_r _ [10] (by decide +kernel) (by decide +kernel)
set_option maxRecDepth 20000 in
theorem gX6_tide_X6_isWithin : GoodIn wsX6_tide (va_wsS RX6 49 yX6_isWithin wsX6_isWithin) := goodIn_app (goodIn_of _ (by decide +kernel)) ggX6_tide_X6_isWithin
set_option maxRecDepth 20000 in
theorem ggX6_tide_X6_record : GoodIn wsX6_tide wsX6_record := goodIn_r _ [14, 15, 16, 17, 18, 19, 20, 21, 22, 23, 24, 6, 25, 1, 26, 27, 28, 29, 30, 31, 32, 33, 34, 35, 36, 37, 38, 39, 40, 41, 42, 43, 44, 45, 46, 47, 48, 49, 50, 51, 52, 53, 54, 55, 56, 57, 58, 59, 60, 61, 62, 63, 64, 65, 66, 67, 68, 69, 70, 71, 72, 73, 74, 75, 76, 77, 78, 79, 80, 81, 82, 83, 84, 85, 86, 87, 105, 106, 107, 108, 109, 110, 111, 112, 113, 114, 115, 116, 117, 118, 119, 120, 121, 122, 123, 124, 125, 126, 127, 128, 129, 130, 131, 132, 133, 134, 135, 136, 137, 138, 139, 140] (by decide +kernel) (by decide +kernel)
set_option maxRecDepth 20000 in
theorem gX6_tide_X6_record : GoodIn wsX6_tide (wsV RX6 53 RX6 yX6_record wsX6_record) := goodIn_app (goodIn_of _ (by decide +kernel)) ggX6_tide_X6_record
set_option maxRecDepth 20000 in
theorem ggX6_tide_X3_change : GoodIn wsX6_tide wsX3_change := goodIn_r _ [91, 45, 46, 47, 92, 93, 94, 52, 95, 54, 120, 121, 122, 123, 124] (by decide +kernel) (by decide +kernel)
set_option maxRecDepth 20000 in
theorem gX6_tide_X3_change : GoodIn wsX6_tide (wsV RX6 60 RX3 yX3_change wsX3_change) := goodIn_app (goodIn_of _ (by decide +kernel)) ggX6_tide_X3_change
set_option maxRecDepth 20000 in
theorem ggX6_tide_X3_levelAt : GoodIn wsX6_tide wsX3_levelAt := goodIn_r _ [99, 47, 45, 46, 100, 19, 20, 21, 101, 102, 103, 52, 104, 54, 120, 121, 122, 123, 124] (by decide +kernel) (by decide +kernel)
set_option maxRecDepth 20000 in
theorem gX6_tide_X3_levelAt : GoodIn wsX6_tide (wsV RX6 70 RX3 yX3_levelAt wsX3_levelAt) := goodIn_app (goodIn_of _ (by decide +kernel)) ggX6_tide_X3_levelAt
theorem dX6_tide_0 : decode cX6_tide 0 = .ok (.iload_n 1, 1) := by decide +kernel
theorem dX6_tide_1 : decode cX6_tide 1 = .ok (.invokestatic 45, 3) := by decide +kernel
theorem dX6_tide_4 : decode cX6_tide 4 = .ok (.ifCond .ne 7, 3) := by decide +kernel
theorem dX6_tide_7 : decode cX6_tide 7 = .ok (.sipush (-1001), 3) := by decide +kernel
theorem dX6_tide_10 : decode cX6_tide 10 = .ok (.ireturn, 1) := by decide +kernel
theorem dX6_tide_11 : decode cX6_tide 11 = .ok (.iload_n 2, 1) := by decide +kernel
theorem dX6_tide_12 : decode cX6_tide 12 = .ok (.iconst 0, 1) := by decide +kernel
theorem dX6_tide_13 : decode cX6_tide 13 = .ok (.sipush 300, 3) := by decide +kernel
theorem dX6_tide_16 : decode cX6_tide 16 = .ok (.invokestatic 49, 3) := by decide +kernel
theorem dX6_tide_19 : decode cX6_tide 19 = .ok (.ifCond .eq 24, 3) := by decide +kernel
theorem dX6_tide_22 : decode cX6_tide 22 = .ok (.iload_n 3, 1) := by decide +kernel
theorem dX6_tide_23 : decode cX6_tide 23 = .ok (.iconst 0, 1) := by decide +kernel
theorem dX6_tide_24 : decode cX6_tide 24 = .ok (.bipush 100, 2) := by decide +kernel
theorem dX6_tide_26 : decode cX6_tide 26 = .ok (.invokestatic 49, 3) := by decide +kernel
theorem dX6_tide_29 : decode cX6_tide 29 = .ok (.ifCond .eq 14, 3) := by decide +kernel
theorem dX6_tide_32 : decode cX6_tide 32 = .ok (.iload 4, 2) := by decide +kernel
theorem dX6_tide_34 : decode cX6_tide 34 = .ok (.iconst 2, 1) := by decide +kernel
theorem dX6_tide_35 : decode cX6_tide 35 = .ok (.bipush 60, 2) := by decide +kernel
theorem dX6_tide_37 : decode cX6_tide 37 = .ok (.invokestatic 49, 3) := by decide +kernel
theorem dX6_tide_40 : decode cX6_tide 40 = .ok (.ifCond .ne 7, 3) := by decide +kernel
theorem dX6_tide_43 : decode cX6_tide 43 = .ok (.sipush (-1002), 3) := by decide +kernel
theorem dX6_tide_46 : decode cX6_tide 46 = .ok (.ireturn, 1) := by decide +kernel
theorem dX6_tide_47 : decode cX6_tide 47 = .ok (.aload_n 0, 1) := by decide +kernel
theorem dX6_tide_48 : decode cX6_tide 48 = .ok (.invokevirtual 53, 3) := by decide +kernel
theorem dX6_tide_51 : decode cX6_tide 51 = .ok (.aload_n 0, 1) := by decide +kernel
theorem dX6_tide_52 : decode cX6_tide 52 = .ok (.getfield 10, 3) := by decide +kernel
theorem dX6_tide_55 : decode cX6_tide 55 = .ok (.getfield 56, 3) := by decide +kernel
theorem dX6_tide_58 : decode cX6_tide 58 = .ok (.iload_n 1, 1) := by decide +kernel
theorem dX6_tide_59 : decode cX6_tide 59 = .ok (.iload_n 2, 1) := by decide +kernel
theorem dX6_tide_60 : decode cX6_tide 60 = .ok (.iload_n 3, 1) := by decide +kernel
theorem dX6_tide_61 : decode cX6_tide 61 = .ok (.iload 4, 2) := by decide +kernel
theorem dX6_tide_63 : decode cX6_tide 63 = .ok (.invokevirtual 60, 3) := by decide +kernel
theorem dX6_tide_66 : decode cX6_tide 66 = .ok (.aload_n 0, 1) := by decide +kernel
theorem dX6_tide_67 : decode cX6_tide 67 = .ok (.getfield 10, 3) := by decide +kernel
theorem dX6_tide_70 : decode cX6_tide 70 = .ok (.getfield 56, 3) := by decide +kernel
theorem dX6_tide_73 : decode cX6_tide 73 = .ok (.iload_n 1, 1) := by decide +kernel
theorem dX6_tide_74 : decode cX6_tide 74 = .ok (.aload_n 0, 1) := by decide +kernel
theorem dX6_tide_75 : decode cX6_tide 75 = .ok (.getfield 10, 3) := by decide +kernel
theorem dX6_tide_78 : decode cX6_tide 78 = .ok (.getfield 66, 3) := by decide +kernel
theorem dX6_tide_81 : decode cX6_tide 81 = .ok (.invokevirtual 70, 3) := by decide +kernel
theorem dX6_tide_84 : decode cX6_tide 84 = .ok (.ireturn, 1) := by decide +kernel
set_option maxRecDepth 20000 in
theorem ggX6_gauge_X6_isStore : GoodIn wsX6_gauge wsX6_isStore := goodIn_r _ [7, 8, 9, 6, 10] (by decide +kernel) (by decide +kernel)
set_option maxRecDepth 20000 in
theorem gX6_gauge_X6_isStore : GoodIn wsX6_gauge (va_wsS RX6 45 yX6_isStore wsX6_isStore) := goodIn_app (goodIn_of _ (by decide +kernel)) ggX6_gauge_X6_isStore
set_option maxRecDepth 20000 in
theorem ggX6_gauge_X6_isWithin : GoodIn wsX6_gauge wsX6_isWithin := goodIn_r _ [10] (by decide +kernel) (by decide +kernel)
set_option maxRecDepth 20000 in
theorem gX6_gauge_X6_isWithin : GoodIn wsX6_gauge (va_wsS RX6 49 yX6_isWithin wsX6_isWithin) := goodIn_app (goodIn_of _ (by decide +kernel)) ggX6_gauge_X6_isWithin
set_option maxRecDepth 20000 in
theorem ggX6_gauge_X6_record : GoodIn wsX6_gauge wsX6_record := goodIn_r _ [14, 15, 16, 17, 18, 19, 20, 21, 22, 23, 24, 6, 25, 1, 26, 27, 28, 29, 30, 31, 32, 33, 34, 35, 36, 37, 38, 39, 40, 41, 42, 43, 44, 45, 46, 47, 48, 49, 50, 51, 52, 53, 54, 55, 56, 57, 58, 59, 60, 61, 62, 63, 64, 65, 66, 67, 68, 69, 70, 71, 72, 73, 74, 75, 76, 77, 78, 79, 80, 81, 82, 83, 84, 85, 86, 87, 96, 97, 98, 99, 100, 101, 102, 103, 104, 105, 106, 107, 108, 109, 110, 111, 112, 113, 114, 115, 116, 117, 118, 119, 120, 121, 122, 123, 124, 125, 126, 127, 128, 129, 130, 131] (by decide +kernel) (by decide +kernel)
set_option maxRecDepth 20000 in
theorem gX6_gauge_X6_record : GoodIn wsX6_gauge (wsV RX6 53 RX6 yX6_record wsX6_record) := goodIn_app (goodIn_of _ (by decide +kernel)) ggX6_gauge_X6_record
set_option maxRecDepth 20000 in
theorem ggX6_gauge_X0_get : GoodIn wsX6_gauge wsX0_get := goodIn_r _ [91, 54, 115] (by decide +kernel) (by decide +kernel)
set_option maxRecDepth 20000 in
theorem gX6_gauge_X0_get : GoodIn wsX6_gauge (wsV RX6 77 RX0 yX0_get wsX0_get) := goodIn_app (goodIn_of _ (by decide +kernel)) ggX6_gauge_X0_get
set_option maxRecDepth 20000 in
theorem ggX6_gauge_X0_set : GoodIn wsX6_gauge wsX0_set := goodIn_r _ [95, 54, 115] (by decide +kernel) (by decide +kernel)
set_option maxRecDepth 20000 in
theorem gX6_gauge_X0_set : GoodIn wsX6_gauge (wsV RX6 81 RX0 yX0_set wsX0_set) := goodIn_app (goodIn_of _ (by decide +kernel)) ggX6_gauge_X0_set
theorem dX6_gauge_0 : decode cX6_gauge 0 = .ok (.iload_n 1, 1) := by decide +kernel
theorem dX6_gauge_1 : decode cX6_gauge 1 = .ok (.invokestatic 45, 3) := by decide +kernel
theorem dX6_gauge_4 : decode cX6_gauge 4 = .ok (.ifCond .ne 7, 3) := by decide +kernel
theorem dX6_gauge_7 : decode cX6_gauge 7 = .ok (.sipush (-1001), 3) := by decide +kernel
theorem dX6_gauge_10 : decode cX6_gauge 10 = .ok (.ireturn, 1) := by decide +kernel
theorem dX6_gauge_11 : decode cX6_gauge 11 = .ok (.iload_n 2, 1) := by decide +kernel
theorem dX6_gauge_12 : decode cX6_gauge 12 = .ok (.bipush (-50), 2) := by decide +kernel
theorem dX6_gauge_14 : decode cX6_gauge 14 = .ok (.bipush 50, 2) := by decide +kernel
theorem dX6_gauge_16 : decode cX6_gauge 16 = .ok (.invokestatic 49, 3) := by decide +kernel
theorem dX6_gauge_19 : decode cX6_gauge 19 = .ok (.ifCond .ne 7, 3) := by decide +kernel
theorem dX6_gauge_22 : decode cX6_gauge 22 = .ok (.sipush (-1002), 3) := by decide +kernel
theorem dX6_gauge_25 : decode cX6_gauge 25 = .ok (.ireturn, 1) := by decide +kernel
theorem dX6_gauge_26 : decode cX6_gauge 26 = .ok (.aload_n 0, 1) := by decide +kernel
theorem dX6_gauge_27 : decode cX6_gauge 27 = .ok (.invokevirtual 53, 3) := by decide +kernel
theorem dX6_gauge_30 : decode cX6_gauge 30 = .ok (.aload_n 0, 1) := by decide +kernel
theorem dX6_gauge_31 : decode cX6_gauge 31 = .ok (.getfield 10, 3) := by decide +kernel
theorem dX6_gauge_34 : decode cX6_gauge 34 = .ok (.getfield 56, 3) := by decide +kernel
theorem dX6_gauge_37 : decode cX6_gauge 37 = .ok (.getfield 74, 3) := by decide +kernel
theorem dX6_gauge_40 : decode cX6_gauge 40 = .ok (.iload_n 1, 1) := by decide +kernel
theorem dX6_gauge_41 : decode cX6_gauge 41 = .ok (.invokevirtual 77, 3) := by decide +kernel
theorem dX6_gauge_44 : decode cX6_gauge 44 = .ok (.istore_n 3, 1) := by decide +kernel
theorem dX6_gauge_45 : decode cX6_gauge 45 = .ok (.aload_n 0, 1) := by decide +kernel
theorem dX6_gauge_46 : decode cX6_gauge 46 = .ok (.getfield 10, 3) := by decide +kernel
theorem dX6_gauge_49 : decode cX6_gauge 49 = .ok (.getfield 56, 3) := by decide +kernel
theorem dX6_gauge_52 : decode cX6_gauge 52 = .ok (.getfield 74, 3) := by decide +kernel
theorem dX6_gauge_55 : decode cX6_gauge 55 = .ok (.iload_n 1, 1) := by decide +kernel
theorem dX6_gauge_56 : decode cX6_gauge 56 = .ok (.iload_n 2, 1) := by decide +kernel
theorem dX6_gauge_57 : decode cX6_gauge 57 = .ok (.invokevirtual 81, 3) := by decide +kernel
theorem dX6_gauge_60 : decode cX6_gauge 60 = .ok (.iload_n 3, 1) := by decide +kernel
theorem dX6_gauge_61 : decode cX6_gauge 61 = .ok (.ireturn, 1) := by decide +kernel
set_option maxRecDepth 20000 in
theorem ggX6_gate_X6_isGate : GoodIn wsX6_gate wsX6_isGate := goodIn_r _ [8, 9, 10, 7, 11] (by decide +kernel) (by decide +kernel)
set_option maxRecDepth 20000 in
theorem gX6_gate_X6_isGate : GoodIn wsX6_gate (va_wsS RX6 85 yX6_isGate wsX6_isGate) := goodIn_app (goodIn_of _ (by decide +kernel)) ggX6_gate_X6_isGate
set_option maxRecDepth 20000 in
theorem ggX6_gate_X6_isWithin : GoodIn wsX6_gate wsX6_isWithin := goodIn_r _ [11] (by decide +kernel) (by decide +kernel)
set_option maxRecDepth 20000 in
theorem gX6_gate_X6_isWithin : GoodIn wsX6_gate (va_wsS RX6 49 yX6_isWithin wsX6_isWithin) := goodIn_app (goodIn_of _ (by decide +kernel)) ggX6_gate_X6_isWithin
set_option maxRecDepth 20000 in
theorem ggX6_gate_X1_hasWord : GoodIn wsX6_gate wsX1_hasWord := goodIn_r _ [16, 17, 18, 19, 20, 21, 22, 23, 121, 122, 123, 124, 125, 126, 127, 128, 129] (by decide +kernel) (by decide +kernel)
set_option maxRecDepth 20000 in
theorem gX6_gate_X1_hasWord : GoodIn wsX6_gate (wsV RX6 92 RX1 yX1_hasWord wsX1_hasWord) := goodIn_app (goodIn_of _ (by decide +kernel)) ggX6_gate_X1_hasWord
set_option maxRecDepth 20000 in
theorem ggX6_gate_X0_get : GoodIn wsX6_gate wsX0_get := goodIn_r _ [22, 23, 129] (by decide +kernel) (by decide +kernel)
set_option maxRecDepth 20000 in
theorem gX6_gate_X0_get : GoodIn wsX6_gate (wsV RX6 77 RX0 yX0_get wsX0_get) := goodIn_app (goodIn_of _ (by decide +kernel)) ggX6_gate_X0_get
set_option maxRecDepth 20000 in
theorem ggX6_gate_X6_record : GoodIn wsX6_gate wsX6_record := goodIn_r _ [28, 29, 30, 31, 32, 33, 34, 35, 36, 37, 38, 7, 39, 1, 40, 41, 42, 43, 44, 45, 46, 47, 48, 49, 50, 51, 52, 53, 54, 55, 56, 57, 58, 59, 60, 61, 62, 63, 64, 65, 21, 66, 23, 67, 68, 69, 70, 71, 72, 73, 74, 15, 75, 76, 77, 78, 79, 17, 80, 81, 82, 83, 84, 85, 86, 87, 88, 89, 90, 91, 92, 93, 94, 95, 96, 97, 106, 107, 108, 109, 110, 111, 112, 113, 114, 115, 116, 117, 118, 119, 120, 130, 131, 132, 133, 129, 121, 122, 123, 124, 125, 126, 127, 128, 134, 135, 136, 137, 138, 139, 140, 141] (by decide +kernel) (by decide +kernel)
set_option maxRecDepth 20000 in
theorem gX6_gate_X6_record : GoodIn wsX6_gate (wsV RX6 53 RX6 yX6_record wsX6_record) := goodIn_app (goodIn_of _ (by decide +kernel)) ggX6_gate_X6_record
set_option maxRecDepth 20000 in
theorem ggX6_gate_X1_change : GoodIn wsX6_gate wsX1_change := goodIn_r _ [101, 76, 77, 78, 102, 103, 104, 21, 105, 23, 121, 122, 123, 124, 125, 126, 127, 128, 129] (by decide +kernel) (by decide +kernel)
set_option maxRecDepth 20000 in
theorem gX6_gate_X1_change : GoodIn wsX6_gate (wsV RX6 103 RX1 yX1_change wsX1_change) := goodIn_app (goodIn_of _ (by decide +kernel)) ggX6_gate_X1_change
theorem dX6_gate_0 : decode cX6_gate 0 = .ok (.iload_n 1, 1) := by decide +kernel
theorem dX6_gate_1 : decode cX6_gate 1 = .ok (.invokestatic 85, 3) := by decide +kernel
theorem dX6_gate_4 : decode cX6_gate 4 = .ok (.ifCond .ne 7, 3) := by decide +kernel
theorem dX6_gate_7 : decode cX6_gate 7 = .ok (.sipush (-1001), 3) := by decide +kernel
theorem dX6_gate_10 : decode cX6_gate 10 = .ok (.ireturn, 1) := by decide +kernel
theorem dX6_gate_11 : decode cX6_gate 11 = .ok (.iload_n 2, 1) := by decide +kernel
theorem dX6_gate_12 : decode cX6_gate 12 = .ok (.iconst 0, 1) := by decide +kernel
theorem dX6_gate_13 : decode cX6_gate 13 = .ok (.iconst 1, 1) := by decide +kernel
theorem dX6_gate_14 : decode cX6_gate 14 = .ok (.invokestatic 49, 3) := by decide +kernel
theorem dX6_gate_17 : decode cX6_gate 17 = .ok (.ifCond .eq 23, 3) := by decide +kernel
theorem dX6_gate_20 : decode cX6_gate 20 = .ok (.iload_n 3, 1) := by decide +kernel
theorem dX6_gate_21 : decode cX6_gate 21 = .ok (.iconst 0, 1) := by decide +kernel
theorem dX6_gate_22 : decode cX6_gate 22 = .ok (.bipush 99, 2) := by decide +kernel
theorem dX6_gate_24 : decode cX6_gate 24 = .ok (.invokestatic 49, 3) := by decide +kernel
theorem dX6_gate_27 : decode cX6_gate 27 = .ok (.ifCond .eq 13, 3) := by decide +kernel
theorem dX6_gate_30 : decode cX6_gate 30 = .ok (.iload 4, 2) := by decide +kernel
theorem dX6_gate_32 : decode cX6_gate 32 = .ok (.iconst 0, 1) := by decide +kernel
theorem dX6_gate_33 : decode cX6_gate 33 = .ok (.iconst 1, 1) := by decide +kernel
theorem dX6_gate_34 : decode cX6_gate 34 = .ok (.invokestatic 49, 3) := by decide +kernel
theorem dX6_gate_37 : decode cX6_gate 37 = .ok (.ifCond .ne 7, 3) := by decide +kernel
theorem dX6_gate_40 : decode cX6_gate 40 = .ok (.sipush (-1002), 3) := by decide +kernel
theorem dX6_gate_43 : decode cX6_gate 43 = .ok (.ireturn, 1) := by decide +kernel
theorem dX6_gate_44 : decode cX6_gate 44 = .ok (.aload_n 0, 1) := by decide +kernel
theorem dX6_gate_45 : decode cX6_gate 45 = .ok (.getfield 10, 3) := by decide +kernel
theorem dX6_gate_48 : decode cX6_gate 48 = .ok (.getfield 88, 3) := by decide +kernel
theorem dX6_gate_51 : decode cX6_gate 51 = .ok (.iload_n 1, 1) := by decide +kernel
theorem dX6_gate_52 : decode cX6_gate 52 = .ok (.invokevirtual 92, 3) := by decide +kernel
theorem dX6_gate_55 : decode cX6_gate 55 = .ok (.ifCond .eq 25, 3) := by decide +kernel
theorem dX6_gate_58 : decode cX6_gate 58 = .ok (.iload_n 2, 1) := by decide +kernel
theorem dX6_gate_59 : decode cX6_gate 59 = .ok (.aload_n 0, 1) := by decide +kernel
theorem dX6_gate_60 : decode cX6_gate 60 = .ok (.getfield 10, 3) := by decide +kernel
theorem dX6_gate_63 : decode cX6_gate 63 = .ok (.getfield 88, 3) := by decide +kernel
theorem dX6_gate_66 : decode cX6_gate 66 = .ok (.getfield 97, 3) := by decide +kernel
theorem dX6_gate_69 : decode cX6_gate 69 = .ok (.iload_n 1, 1) := by decide +kernel
theorem dX6_gate_70 : decode cX6_gate 70 = .ok (.invokevirtual 77, 3) := by decide +kernel
theorem dX6_gate_73 : decode cX6_gate 73 = .ok (.if_icmp .eq 7, 3) := by decide +kernel
theorem dX6_gate_76 : decode cX6_gate 76 = .ok (.sipush (-1005), 3) := by decide +kernel
theorem dX6_gate_79 : decode cX6_gate 79 = .ok (.ireturn, 1) := by decide +kernel
theorem dX6_gate_80 : decode cX6_gate 80 = .ok (.aload_n 0, 1) := by decide +kernel
theorem dX6_gate_81 : decode cX6_gate 81 = .ok (.invokevirtual 53, 3) := by decide +kernel
theorem dX6_gate_84 : decode cX6_gate 84 = .ok (.aload_n 0, 1) := by decide +kernel
theorem dX6_gate_85 : decode cX6_gate 85 = .ok (.getfield 10, 3) := by decide +kernel
theorem dX6_gate_88 : decode cX6_gate 88 = .ok (.getfield 88, 3) := by decide +kernel
theorem dX6_gate_91 : decode cX6_gate 91 = .ok (.getfield 100, 3) := by decide +kernel
theorem dX6_gate_94 : decode cX6_gate 94 = .ok (.iload_n 1, 1) := by decide +kernel
theorem dX6_gate_95 : decode cX6_gate 95 = .ok (.invokevirtual 77, 3) := by decide +kernel
theorem dX6_gate_98 : decode cX6_gate 98 = .ok (.istore 5, 2) := by decide +kernel
theorem dX6_gate_100 : decode cX6_gate 100 = .ok (.aload_n 0, 1) := by decide +kernel
theorem dX6_gate_101 : decode cX6_gate 101 = .ok (.getfield 10, 3) := by decide +kernel
theorem dX6_gate_104 : decode cX6_gate 104 = .ok (.getfield 88, 3) := by decide +kernel
theorem dX6_gate_107 : decode cX6_gate 107 = .ok (.iload_n 1, 1) := by decide +kernel
theorem dX6_gate_108 : decode cX6_gate 108 = .ok (.iload_n 2, 1) := by decide +kernel
theorem dX6_gate_109 : decode cX6_gate 109 = .ok (.iload_n 3, 1) := by decide +kernel
theorem dX6_gate_110 : decode cX6_gate 110 = .ok (.iload 4, 2) := by decide +kernel
theorem dX6_gate_112 : decode cX6_gate 112 = .ok (.invokevirtual 103, 3) := by decide +kernel
theorem dX6_gate_115 : decode cX6_gate 115 = .ok (.iload 5, 2) := by decide +kernel
theorem dX6_gate_117 : decode cX6_gate 117 = .ok (.ireturn, 1) := by decide +kernel
set_option maxRecDepth 20000 in
theorem ggX6_shut_X6_isGate : GoodIn wsX6_shut wsX6_isGate := goodIn_r _ [7, 8, 9, 6, 10] (by decide +kernel) (by decide +kernel)
set_option maxRecDepth 20000 in
theorem gX6_shut_X6_isGate : GoodIn wsX6_shut (va_wsS RX6 85 yX6_isGate wsX6_isGate) := goodIn_app (goodIn_of _ (by decide +kernel)) ggX6_shut_X6_isGate
set_option maxRecDepth 20000 in
theorem ggX6_shut_X1_isShut : GoodIn wsX6_shut wsX1_isShut := goodIn_r _ [15, 16, 17, 18, 19, 20, 21, 22, 119, 120, 121, 122, 123, 124, 125, 126, 127] (by decide +kernel) (by decide +kernel)
set_option maxRecDepth 20000 in
theorem gX6_shut_X1_isShut : GoodIn wsX6_shut (wsV RX6 104 RX1 yX1_isShut wsX1_isShut) := goodIn_app (goodIn_of _ (by decide +kernel)) ggX6_shut_X1_isShut
set_option maxRecDepth 20000 in
theorem ggX6_shut_X6_record : GoodIn wsX6_shut wsX6_record := goodIn_r _ [26, 27, 28, 29, 30, 31, 32, 33, 34, 35, 36, 6, 37, 1, 38, 39, 40, 41, 42, 43, 44, 45, 46, 47, 48, 49, 50, 51, 52, 53, 54, 55, 56, 57, 58, 59, 60, 61, 62, 63, 20, 64, 22, 65, 66, 67, 68, 69, 70, 71, 72, 14, 73, 74, 75, 76, 16, 77, 78, 79, 80, 81, 82, 83, 84, 85, 86, 87, 88, 89, 90, 91, 92, 93, 94, 95, 104, 105, 106, 107, 108, 109, 110, 111, 112, 113, 114, 115, 116, 117, 118, 128, 129, 130, 131, 127, 119, 120, 121, 122, 123, 124, 125, 126, 132, 133, 134, 135, 136, 137, 138, 139] (by decide +kernel) (by decide +kernel)
set_option maxRecDepth 20000 in
theorem gX6_shut_X6_record : GoodIn wsX6_shut (wsV RX6 53 RX6 yX6_record wsX6_record) := goodIn_app (goodIn_of _ (by decide +kernel)) ggX6_shut_X6_record
set_option maxRecDepth 20000 in
theorem ggX6_shut_X0_set : GoodIn wsX6_shut wsX0_set := goodIn_r _ [99, 22, 127] (by decide +kernel) (by decide +kernel)
set_option maxRecDepth 20000 in
theorem gX6_shut_X0_set : GoodIn wsX6_shut (wsV RX6 81 RX0 yX0_set wsX0_set) := goodIn_app (goodIn_of _ (by decide +kernel)) ggX6_shut_X0_set
set_option maxRecDepth 20000 in
theorem ggX6_shut_X0_sum : GoodIn wsX6_shut wsX0_sum := goodIn_r _ [103, 22, 127] (by decide +kernel) (by decide +kernel)
set_option maxRecDepth 20000 in
theorem gX6_shut_X0_sum : GoodIn wsX6_shut (wsV RX6 110 RX0 yX0_sum wsX0_sum) := goodIn_app (goodIn_of _ (by decide +kernel)) ggX6_shut_X0_sum
theorem dX6_shut_0 : decode cX6_shut 0 = .ok (.iload_n 1, 1) := by decide +kernel
theorem dX6_shut_1 : decode cX6_shut 1 = .ok (.invokestatic 85, 3) := by decide +kernel
theorem dX6_shut_4 : decode cX6_shut 4 = .ok (.ifCond .ne 7, 3) := by decide +kernel
theorem dX6_shut_7 : decode cX6_shut 7 = .ok (.sipush (-1001), 3) := by decide +kernel
theorem dX6_shut_10 : decode cX6_shut 10 = .ok (.ireturn, 1) := by decide +kernel
theorem dX6_shut_11 : decode cX6_shut 11 = .ok (.aload_n 0, 1) := by decide +kernel
theorem dX6_shut_12 : decode cX6_shut 12 = .ok (.getfield 10, 3) := by decide +kernel
theorem dX6_shut_15 : decode cX6_shut 15 = .ok (.getfield 88, 3) := by decide +kernel
theorem dX6_shut_18 : decode cX6_shut 18 = .ok (.iload_n 1, 1) := by decide +kernel
theorem dX6_shut_19 : decode cX6_shut 19 = .ok (.invokevirtual 104, 3) := by decide +kernel
theorem dX6_shut_22 : decode cX6_shut 22 = .ok (.iload_n 2, 1) := by decide +kernel
theorem dX6_shut_23 : decode cX6_shut 23 = .ok (.if_icmp .ne 7, 3) := by decide +kernel
theorem dX6_shut_26 : decode cX6_shut 26 = .ok (.sipush (-1005), 3) := by decide +kernel
theorem dX6_shut_29 : decode cX6_shut 29 = .ok (.ireturn, 1) := by decide +kernel
theorem dX6_shut_30 : decode cX6_shut 30 = .ok (.aload_n 0, 1) := by decide +kernel
theorem dX6_shut_31 : decode cX6_shut 31 = .ok (.invokevirtual 53, 3) := by decide +kernel
theorem dX6_shut_34 : decode cX6_shut 34 = .ok (.aload_n 0, 1) := by decide +kernel
theorem dX6_shut_35 : decode cX6_shut 35 = .ok (.getfield 10, 3) := by decide +kernel
theorem dX6_shut_38 : decode cX6_shut 38 = .ok (.getfield 88, 3) := by decide +kernel
theorem dX6_shut_41 : decode cX6_shut 41 = .ok (.getfield 107, 3) := by decide +kernel
theorem dX6_shut_44 : decode cX6_shut 44 = .ok (.iload_n 1, 1) := by decide +kernel
theorem dX6_shut_45 : decode cX6_shut 45 = .ok (.iload_n 2, 1) := by decide +kernel
theorem dX6_shut_46 : decode cX6_shut 46 = .ok (.ifCond .eq 7, 3) := by decide +kernel
theorem dX6_shut_49 : decode cX6_shut 49 = .ok (.iconst 1, 1) := by decide +kernel
theorem dX6_shut_50 : decode cX6_shut 50 = .ok (.goto 4, 3) := by decide +kernel
theorem dX6_shut_53 : decode cX6_shut 53 = .ok (.iconst 0, 1) := by decide +kernel
theorem dX6_shut_54 : decode cX6_shut 54 = .ok (.invokevirtual 81, 3) := by decide +kernel
theorem dX6_shut_57 : decode cX6_shut 57 = .ok (.aload_n 0, 1) := by decide +kernel
theorem dX6_shut_58 : decode cX6_shut 58 = .ok (.getfield 10, 3) := by decide +kernel
theorem dX6_shut_61 : decode cX6_shut 61 = .ok (.getfield 88, 3) := by decide +kernel
theorem dX6_shut_64 : decode cX6_shut 64 = .ok (.getfield 107, 3) := by decide +kernel
theorem dX6_shut_67 : decode cX6_shut 67 = .ok (.invokevirtual 110, 3) := by decide +kernel
theorem dX6_shut_70 : decode cX6_shut 70 = .ok (.ireturn, 1) := by decide +kernel
set_option maxRecDepth 20000 in
theorem ggX6_put_X6_isStore : GoodIn wsX6_put wsX6_isStore := goodIn_r _ [9, 10, 11, 8, 12] (by decide +kernel) (by decide +kernel)
set_option maxRecDepth 20000 in
theorem gX6_put_X6_isStore : GoodIn wsX6_put (va_wsS RX6 45 yX6_isStore wsX6_isStore) := goodIn_app (goodIn_of _ (by decide +kernel)) ggX6_put_X6_isStore
set_option maxRecDepth 20000 in
theorem ggX6_put_X2_faultPlace : GoodIn wsX6_put wsX2_faultPlace := goodIn_r _ [17, 18, 19, 20, 21, 22, 23, 24, 25, 155, 156, 157] (by decide +kernel) (by decide +kernel)
set_option maxRecDepth 20000 in
theorem gX6_put_X2_faultPlace : GoodIn wsX6_put (wsV RX6 114 RX2 yX2_faultPlace wsX2_faultPlace) := goodIn_app (goodIn_of _ (by decide +kernel)) ggX6_put_X2_faultPlace
set_option maxRecDepth 20000 in
theorem ggX6_put_X2_wordsInside : GoodIn wsX6_put wsX2_wordsInside := goodIn_r _ [29, 18, 19, 20, 21, 22, 23, 24, 25, 155, 156, 157] (by decide +kernel) (by decide +kernel)
set_option maxRecDepth 20000 in
theorem gX6_put_X2_wordsInside : GoodIn wsX6_put (wsV RX6 126 RX2 yX2_wordsInside wsX2_wordsInside) := goodIn_app (goodIn_of _ (by decide +kernel)) ggX6_put_X2_wordsInside
set_option maxRecDepth 20000 in
theorem ggX6_put_X6_record : GoodIn wsX6_put wsX6_record := goodIn_r _ [33, 34, 35, 36, 37, 38, 39, 40, 41, 42, 43, 8, 44, 2, 45, 46, 47, 48, 49, 50, 51, 52, 53, 54, 55, 56, 57, 58, 59, 60, 61, 62, 63, 64, 65, 66, 67, 68, 69, 70, 23, 71, 25, 72, 73, 74, 75, 76, 77, 78, 79, 80, 81, 82, 83, 84, 85, 86, 87, 88, 89, 90, 91, 92, 93, 94, 95, 96, 97, 98, 99, 100, 101, 102, 103, 104, 132, 133, 134, 135, 136, 137, 138, 139, 140, 141, 142, 143, 144, 145, 146, 158, 159, 160, 161, 157, 162, 163, 164, 165, 166, 167, 168, 169, 147, 148, 149, 150, 151, 152, 153, 154] (by decide +kernel) (by decide +kernel)
set_option maxRecDepth 20000 in
theorem gX6_put_X6_record : GoodIn wsX6_put (wsV RX6 53 RX6 yX6_record wsX6_record) := goodIn_app (goodIn_of _ (by decide +kernel)) ggX6_put_X6_record
set_option maxRecDepth 20000 in
theorem ggX6_put_X6_bringWords : GoodIn wsX6_put wsX6_bringWords := goodIn_r _ [108, 2, 3, 1, 5, 109, 110, 111, 112, 94, 113, 103, 96, 98, 99, 114, 115, 116, 23, 117, 25, 118, 119, 120, 121, 102, 101, 122, 21, 22, 24, 123, 124, 125, 126, 127, 97, 128, 129, 130, 131, 132, 133, 134, 135, 136, 137, 138, 139, 140, 141, 142, 143, 144, 145, 146, 155, 156, 147, 148, 149, 150, 151, 152, 153, 154, 157] (by decide +kernel) (by decide +kernel)
set_option maxRecDepth 20000 in
theorem gX6_put_X6_bringWords : GoodIn wsX6_put (wsV RX6 129 RX6 yX6_bringWords wsX6_bringWords) := goodIn_app (goodIn_of _ (by decide +kernel)) ggX6_put_X6_bringWords
theorem dX6_put_0 : decode cX6_put 0 = .ok (.iload_n 1, 1) := by decide +kernel
theorem dX6_put_1 : decode cX6_put 1 = .ok (.invokestatic 45, 3) := by decide +kernel
theorem dX6_put_4 : decode cX6_put 4 = .ok (.ifCond .ne 7, 3) := by decide +kernel
theorem dX6_put_7 : decode cX6_put 7 = .ok (.sipush (-1001), 3) := by decide +kernel
theorem dX6_put_10 : decode cX6_put 10 = .ok (.ireturn, 1) := by decide +kernel
theorem dX6_put_11 : decode cX6_put 11 = .ok (.aload_n 0, 1) := by decide +kernel
theorem dX6_put_12 : decode cX6_put 12 = .ok (.getfield 22, 3) := by decide +kernel
theorem dX6_put_15 : decode cX6_put 15 = .ok (.invokevirtual 114, 3) := by decide +kernel
theorem dX6_put_18 : decode cX6_put 18 = .ok (.sipush (-1006), 3) := by decide +kernel
theorem dX6_put_21 : decode cX6_put 21 = .ok (.if_icmp .eq 7, 3) := by decide +kernel
theorem dX6_put_24 : decode cX6_put 24 = .ok (.sipush (-1003), 3) := by decide +kernel
theorem dX6_put_27 : decode cX6_put 27 = .ok (.ireturn, 1) := by decide +kernel
theorem dX6_put_28 : decode cX6_put 28 = .ok (.aload_n 0, 1) := by decide +kernel
theorem dX6_put_29 : decode cX6_put 29 = .ok (.getfield 10, 3) := by decide +kernel
theorem dX6_put_32 : decode cX6_put 32 = .ok (.getfield 117, 3) := by decide +kernel
theorem dX6_put_35 : decode cX6_put 35 = .ok (.getfield 121, 3) := by decide +kernel
theorem dX6_put_38 : decode cX6_put 38 = .ok (.aload_n 0, 1) := by decide +kernel
theorem dX6_put_39 : decode cX6_put 39 = .ok (.getfield 22, 3) := by decide +kernel
theorem dX6_put_42 : decode cX6_put 42 = .ok (.invokevirtual 126, 3) := by decide +kernel
theorem dX6_put_45 : decode cX6_put 45 = .ok (.iadd, 1) := by decide +kernel
theorem dX6_put_46 : decode cX6_put 46 = .ok (.bipush 12, 2) := by decide +kernel
theorem dX6_put_48 : decode cX6_put 48 = .ok (.if_icmp .le 7, 3) := by decide +kernel
theorem dX6_put_51 : decode cX6_put 51 = .ok (.sipush (-1004), 3) := by decide +kernel
theorem dX6_put_54 : decode cX6_put 54 = .ok (.ireturn, 1) := by decide +kernel
theorem dX6_put_55 : decode cX6_put 55 = .ok (.aload_n 0, 1) := by decide +kernel
theorem dX6_put_56 : decode cX6_put 56 = .ok (.invokevirtual 53, 3) := by decide +kernel
theorem dX6_put_59 : decode cX6_put 59 = .ok (.aload_n 0, 1) := by decide +kernel
theorem dX6_put_60 : decode cX6_put 60 = .ok (.iload_n 1, 1) := by decide +kernel
theorem dX6_put_61 : decode cX6_put 61 = .ok (.invokevirtual 129, 3) := by decide +kernel
theorem dX6_put_64 : decode cX6_put 64 = .ok (.aload_n 0, 1) := by decide +kernel
theorem dX6_put_65 : decode cX6_put 65 = .ok (.getfield 22, 3) := by decide +kernel
theorem dX6_put_68 : decode cX6_put 68 = .ok (.iconst 0, 1) := by decide +kernel
theorem dX6_put_69 : decode cX6_put 69 = .ok (.putfield 132, 3) := by decide +kernel
theorem dX6_put_72 : decode cX6_put 72 = .ok (.aload_n 0, 1) := by decide +kernel
theorem dX6_put_73 : decode cX6_put 73 = .ok (.getfield 10, 3) := by decide +kernel
theorem dX6_put_76 : decode cX6_put 76 = .ok (.getfield 117, 3) := by decide +kernel
theorem dX6_put_79 : decode cX6_put 79 = .ok (.getfield 121, 3) := by decide +kernel
theorem dX6_put_82 : decode cX6_put 82 = .ok (.ireturn, 1) := by decide +kernel
set_option maxRecDepth 20000 in
theorem ggX6_run_X6_isWithin : GoodIn wsX6_run wsX6_isWithin := goodIn_r _ [9] (by decide +kernel) (by decide +kernel)
set_option maxRecDepth 20000 in
theorem gX6_run_X6_isWithin : GoodIn wsX6_run (va_wsS RX6 49 yX6_isWithin wsX6_isWithin) := goodIn_app (goodIn_of _ (by decide +kernel)) ggX6_run_X6_isWithin
set_option maxRecDepth 20000 in
theorem ggX6_run_X6_record : GoodIn wsX6_run wsX6_record := goodIn_r _ [13, 14, 15, 16, 17, 18, 19, 20, 21, 22, 23, 8, 24, 1, 25, 26, 27, 28, 29, 30, 31, 32, 33, 34, 35, 36, 37, 38, 39, 40, 41, 42, 43, 44, 45, 46, 47, 48, 49, 50, 51, 52, 53, 54, 55, 56, 57, 58, 59, 60, 61, 62, 63, 64, 65, 66, 67, 68, 69, 70, 71, 72, 73, 74, 75, 76, 77, 78, 79, 80, 81, 82, 83, 84, 85, 86, 196, 197, 198, 199, 200, 201, 202, 203, 204, 205, 206, 207, 208, 209, 210, 219, 220, 221, 222, 223, 211, 212, 213, 214, 215, 216, 217, 218, 224, 225, 226, 227, 228, 229, 230, 231] (by decide +kernel) (by decide +kernel)
set_option maxRecDepth 20000 in
theorem gX6_run_X6_record : GoodIn wsX6_run (wsV RX6 53 RX6 yX6_record wsX6_record) := goodIn_app (goodIn_of _ (by decide +kernel)) ggX6_run_X6_record
set_option maxRecDepth 20000 in
theorem ggX6_run_X0_sum : GoodIn wsX6_run wsX0_sum := goodIn_r _ [90, 53, 223] (by decide +kernel) (by decide +kernel)
set_option maxRecDepth 20000 in
theorem gX6_run_X0_sum : GoodIn wsX6_run (wsV RX6 110 RX0 yX0_sum wsX0_sum) := goodIn_app (goodIn_of _ (by decide +kernel)) ggX6_run_X0_sum
set_option maxRecDepth 20000 in
theorem ggX6_run_X5_makeSteps : GoodIn wsX6_run wsX5_makeSteps := goodIn_r _ [94, 33, 36, 95, 96, 97, 42, 98, 99, 100, 101, 102, 47, 103, 104, 105, 106, 46, 44, 45, 107, 18, 19, 20, 108, 109, 110, 51, 111, 53, 112, 113, 114, 31, 115, 34, 38, 116, 117, 118, 62, 119, 120, 121, 122, 65, 123, 124, 125, 126, 67, 127, 128, 129, 130, 131, 132, 35, 133, 134, 135, 136, 137, 68, 138, 139, 140, 141, 76, 142, 84, 143, 144, 145, 146, 147, 83, 148, 149, 150, 151, 80, 152, 153, 154, 155, 156, 157, 158, 159, 160, 161, 162, 163, 164, 37, 165, 166, 167, 168, 169, 170, 171, 172, 173, 174, 175, 69, 176, 177, 178, 179, 180, 81, 181, 182, 183, 184, 185, 186, 187, 188, 189, 190, 191, 192, 193, 194, 195, 205, 206, 207, 208, 209, 210, 219, 220, 221, 222, 223, 211, 212, 213, 214, 215, 216, 217, 218, 224, 225, 226, 227, 228, 229, 230, 231] (by decide +kernel) (by decide +kernel)
set_option maxRecDepth 20000 in
theorem gX6_run_X5_makeSteps : GoodIn wsX6_run (wsV RX6 139 RX5 yX5_makeSteps wsX5_makeSteps) := goodIn_app (goodIn_of _ (by decide +kernel)) ggX6_run_X5_makeSteps
theorem dX6_run_0 : decode cX6_run 0 = .ok (.iload_n 1, 1) := by decide +kernel
theorem dX6_run_1 : decode cX6_run 1 = .ok (.iconst 1, 1) := by decide +kernel
theorem dX6_run_2 : decode cX6_run 2 = .ok (.sipush 500, 3) := by decide +kernel
theorem dX6_run_5 : decode cX6_run 5 = .ok (.invokestatic 49, 3) := by decide +kernel
theorem dX6_run_8 : decode cX6_run 8 = .ok (.ifCond .ne 7, 3) := by decide +kernel
theorem dX6_run_11 : decode cX6_run 11 = .ok (.sipush (-1002), 3) := by decide +kernel
theorem dX6_run_14 : decode cX6_run 14 = .ok (.ireturn, 1) := by decide +kernel
theorem dX6_run_15 : decode cX6_run 15 = .ok (.aload_n 0, 1) := by decide +kernel
theorem dX6_run_16 : decode cX6_run 16 = .ok (.getfield 10, 3) := by decide +kernel
theorem dX6_run_19 : decode cX6_run 19 = .ok (.getfield 66, 3) := by decide +kernel
theorem dX6_run_22 : decode cX6_run 22 = .ok (.iload_n 1, 1) := by decide +kernel
theorem dX6_run_23 : decode cX6_run 23 = .ok (.iadd, 1) := by decide +kernel
theorem dX6_run_24 : decode cX6_run 24 = .ok (.ldc 135, 2) := by decide +kernel
theorem dX6_run_26 : decode cX6_run 26 = .ok (.if_icmp .le 7, 3) := by decide +kernel
theorem dX6_run_29 : decode cX6_run 29 = .ok (.sipush (-1004), 3) := by decide +kernel
theorem dX6_run_32 : decode cX6_run 32 = .ok (.ireturn, 1) := by decide +kernel
theorem dX6_run_33 : decode cX6_run 33 = .ok (.aload_n 0, 1) := by decide +kernel
theorem dX6_run_34 : decode cX6_run 34 = .ok (.invokevirtual 53, 3) := by decide +kernel
theorem dX6_run_37 : decode cX6_run 37 = .ok (.aload_n 0, 1) := by decide +kernel
theorem dX6_run_38 : decode cX6_run 38 = .ok (.getfield 10, 3) := by decide +kernel
theorem dX6_run_41 : decode cX6_run 41 = .ok (.getfield 88, 3) := by decide +kernel
theorem dX6_run_44 : decode cX6_run 44 = .ok (.getfield 136, 3) := by decide +kernel
theorem dX6_run_47 : decode cX6_run 47 = .ok (.invokevirtual 110, 3) := by decide +kernel
theorem dX6_run_50 : decode cX6_run 50 = .ok (.istore_n 2, 1) := by decide +kernel
theorem dX6_run_51 : decode cX6_run 51 = .ok (.aload_n 0, 1) := by decide +kernel
theorem dX6_run_52 : decode cX6_run 52 = .ok (.getfield 10, 3) := by decide +kernel
theorem dX6_run_55 : decode cX6_run 55 = .ok (.iload_n 1, 1) := by decide +kernel
theorem dX6_run_56 : decode cX6_run 56 = .ok (.invokevirtual 139, 3) := by decide +kernel
theorem dX6_run_59 : decode cX6_run 59 = .ok (.aload_n 0, 1) := by decide +kernel
theorem dX6_run_60 : decode cX6_run 60 = .ok (.getfield 10, 3) := by decide +kernel
theorem dX6_run_63 : decode cX6_run 63 = .ok (.getfield 88, 3) := by decide +kernel
theorem dX6_run_66 : decode cX6_run 66 = .ok (.getfield 136, 3) := by decide +kernel
theorem dX6_run_69 : decode cX6_run 69 = .ok (.invokevirtual 110, 3) := by decide +kernel
theorem dX6_run_72 : decode cX6_run 72 = .ok (.iload_n 2, 1) := by decide +kernel
theorem dX6_run_73 : decode cX6_run 73 = .ok (.isub, 1) := by decide +kernel
theorem dX6_run_74 : decode cX6_run 74 = .ok (.ireturn, 1) := by decide +kernel
set_option maxRecDepth 20000 in
theorem ggX6_store_X6_isStore : GoodIn wsX6_store wsX6_isStore := goodIn_r _ [13, 14, 15, 12, 16] (by decide +kernel) (by decide +kernel)
set_option maxRecDepth 20000 in
theorem gX6_store_X6_isStore : GoodIn wsX6_store (va_wsS RX6 45 yX6_isStore wsX6_isStore) := goodIn_app (goodIn_of _ (by decide +kernel)) ggX6_store_X6_isStore
set_option maxRecDepth 20000 in
theorem ggX6_store_X0_get : GoodIn wsX6_store wsX0_get := goodIn_r _ [21, 22, 91] (by decide +kernel) (by decide +kernel)
set_option maxRecDepth 20000 in
theorem gX6_store_X0_get : GoodIn wsX6_store (wsV RX6 77 RX0 yX0_get wsX0_get) := goodIn_app (goodIn_of _ (by decide +kernel)) ggX6_store_X0_get
set_option maxRecDepth 20000 in
theorem ggX6_store_X3_levelAt : GoodIn wsX6_store wsX3_levelAt := goodIn_r _ [27, 28, 29, 30, 31, 32, 33, 34, 35, 18, 19, 20, 21, 22, 79, 80, 81, 82, 91] (by decide +kernel) (by decide +kernel)
set_option maxRecDepth 20000 in
theorem gX6_store_X3_levelAt : GoodIn wsX6_store (wsV RX6 70 RX3 yX3_levelAt wsX3_levelAt) := goodIn_app (goodIn_of _ (by decide +kernel)) ggX6_store_X3_levelAt
set_option maxRecDepth 20000 in
theorem ggX6_store_X3_toldAt : GoodIn wsX6_store wsX3_toldAt := goodIn_r _ [39, 40, 41, 24, 25, 26, 27, 28, 29, 30, 31, 32, 33, 34, 35, 18, 19, 20, 21, 22, 79, 80, 81, 82, 91] (by decide +kernel) (by decide +kernel)
set_option maxRecDepth 20000 in
theorem gX6_store_X3_toldAt : GoodIn wsX6_store (wsV RX6 151 RX3 yX3_toldAt wsX3_toldAt) := goodIn_app (goodIn_of _ (by decide +kernel)) ggX6_store_X3_toldAt
set_option maxRecDepth 20000 in
theorem ggX6_store_X4_lettersInRow : GoodIn wsX6_store wsX4_lettersInRow := goodIn_r _ [46, 47, 48, 49, 18, 19, 20, 21, 22, 50, 51, 52, 45, 53, 54, 83, 84, 85, 86, 87, 88, 89, 90, 91] (by decide +kernel) (by decide +kernel)
set_option maxRecDepth 20000 in
theorem gX6_store_X4_lettersInRow : GoodIn wsX6_store (wsV RX6 157 RX4 yX4_lettersInRow wsX4_lettersInRow) := goodIn_app (goodIn_of _ (by decide +kernel)) ggX6_store_X4_lettersInRow
set_option maxRecDepth 20000 in
theorem ggX6_store_X4_waitingInRow : GoodIn wsX6_store wsX4_waitingInRow := goodIn_r _ [58, 47, 49, 18, 19, 20, 21, 22, 50, 51, 52, 45, 53, 54, 59, 60, 61, 62, 63, 83, 84, 85, 86, 87, 88, 89, 90, 91] (by decide +kernel) (by decide +kernel)
set_option maxRecDepth 20000 in
theorem gX6_store_X4_waitingInRow : GoodIn wsX6_store (wsV RX6 160 RX4 yX4_waitingInRow wsX4_waitingInRow) := goodIn_app (goodIn_of _ (by decide +kernel)) ggX6_store_X4_waitingInRow
theorem dX6_store_0 : decode cX6_store 0 = .ok (.iload_n 1, 1) := by decide +kernel
theorem dX6_store_1 : decode cX6_store 1 = .ok (.invokestatic 45, 3) := by decide +kernel
theorem dX6_store_4 : decode cX6_store 4 = .ok (.ifCond .ne 7, 3) := by decide +kernel
theorem dX6_store_7 : decode cX6_store 7 = .ok (.sipush (-1001), 3) := by decide +kernel
theorem dX6_store_10 : decode cX6_store 10 = .ok (.ireturn, 1) := by decide +kernel
theorem dX6_store_11 : decode cX6_store 11 = .ok (.iload_n 2, 1) := by decide +kernel
theorem dX6_store_12 : decode cX6_store 12 = .ok (.tableswitch 189 0 8 #[52, 67, 82, 97, 112, 131, 150, 165, 177], 52) := by decide +kernel
theorem dX6_store_64 : decode cX6_store 64 = .ok (.aload_n 0, 1) := by decide +kernel
theorem dX6_store_65 : decode cX6_store 65 = .ok (.getfield 10, 3) := by decide +kernel
theorem dX6_store_68 : decode cX6_store 68 = .ok (.getfield 56, 3) := by decide +kernel
theorem dX6_store_71 : decode cX6_store 71 = .ok (.getfield 142, 3) := by decide +kernel
theorem dX6_store_74 : decode cX6_store 74 = .ok (.iload_n 1, 1) := by decide +kernel
theorem dX6_store_75 : decode cX6_store 75 = .ok (.invokevirtual 77, 3) := by decide +kernel
theorem dX6_store_78 : decode cX6_store 78 = .ok (.ireturn, 1) := by decide +kernel
theorem dX6_store_79 : decode cX6_store 79 = .ok (.aload_n 0, 1) := by decide +kernel
theorem dX6_store_80 : decode cX6_store 80 = .ok (.getfield 10, 3) := by decide +kernel
theorem dX6_store_83 : decode cX6_store 83 = .ok (.getfield 56, 3) := by decide +kernel
theorem dX6_store_86 : decode cX6_store 86 = .ok (.getfield 145, 3) := by decide +kernel
theorem dX6_store_89 : decode cX6_store 89 = .ok (.iload_n 1, 1) := by decide +kernel
theorem dX6_store_90 : decode cX6_store 90 = .ok (.invokevirtual 77, 3) := by decide +kernel
theorem dX6_store_93 : decode cX6_store 93 = .ok (.ireturn, 1) := by decide +kernel
theorem dX6_store_94 : decode cX6_store 94 = .ok (.aload_n 0, 1) := by decide +kernel
theorem dX6_store_95 : decode cX6_store 95 = .ok (.getfield 10, 3) := by decide +kernel
theorem dX6_store_98 : decode cX6_store 98 = .ok (.getfield 56, 3) := by decide +kernel
theorem dX6_store_101 : decode cX6_store 101 = .ok (.getfield 148, 3) := by decide +kernel
theorem dX6_store_104 : decode cX6_store 104 = .ok (.iload_n 1, 1) := by decide +kernel
theorem dX6_store_105 : decode cX6_store 105 = .ok (.invokevirtual 77, 3) := by decide +kernel
theorem dX6_store_108 : decode cX6_store 108 = .ok (.ireturn, 1) := by decide +kernel
theorem dX6_store_109 : decode cX6_store 109 = .ok (.aload_n 0, 1) := by decide +kernel
theorem dX6_store_110 : decode cX6_store 110 = .ok (.getfield 10, 3) := by decide +kernel
theorem dX6_store_113 : decode cX6_store 113 = .ok (.getfield 56, 3) := by decide +kernel
theorem dX6_store_116 : decode cX6_store 116 = .ok (.getfield 74, 3) := by decide +kernel
theorem dX6_store_119 : decode cX6_store 119 = .ok (.iload_n 1, 1) := by decide +kernel
theorem dX6_store_120 : decode cX6_store 120 = .ok (.invokevirtual 77, 3) := by decide +kernel
theorem dX6_store_123 : decode cX6_store 123 = .ok (.ireturn, 1) := by decide +kernel
theorem dX6_store_124 : decode cX6_store 124 = .ok (.aload_n 0, 1) := by decide +kernel
theorem dX6_store_125 : decode cX6_store 125 = .ok (.getfield 10, 3) := by decide +kernel
theorem dX6_store_128 : decode cX6_store 128 = .ok (.getfield 56, 3) := by decide +kernel
theorem dX6_store_131 : decode cX6_store 131 = .ok (.iload_n 1, 1) := by decide +kernel
theorem dX6_store_132 : decode cX6_store 132 = .ok (.aload_n 0, 1) := by decide +kernel
theorem dX6_store_133 : decode cX6_store 133 = .ok (.getfield 10, 3) := by decide +kernel
theorem dX6_store_136 : decode cX6_store 136 = .ok (.getfield 66, 3) := by decide +kernel
theorem dX6_store_139 : decode cX6_store 139 = .ok (.invokevirtual 70, 3) := by decide +kernel
theorem dX6_store_142 : decode cX6_store 142 = .ok (.ireturn, 1) := by decide +kernel
theorem dX6_store_143 : decode cX6_store 143 = .ok (.aload_n 0, 1) := by decide +kernel
theorem dX6_store_144 : decode cX6_store 144 = .ok (.getfield 10, 3) := by decide +kernel
theorem dX6_store_147 : decode cX6_store 147 = .ok (.getfield 56, 3) := by decide +kernel
theorem dX6_store_150 : decode cX6_store 150 = .ok (.iload_n 1, 1) := by decide +kernel
theorem dX6_store_151 : decode cX6_store 151 = .ok (.aload_n 0, 1) := by decide +kernel
theorem dX6_store_152 : decode cX6_store 152 = .ok (.getfield 10, 3) := by decide +kernel
theorem dX6_store_155 : decode cX6_store 155 = .ok (.getfield 66, 3) := by decide +kernel
theorem dX6_store_158 : decode cX6_store 158 = .ok (.invokevirtual 151, 3) := by decide +kernel
theorem dX6_store_161 : decode cX6_store 161 = .ok (.ireturn, 1) := by decide +kernel
theorem dX6_store_162 : decode cX6_store 162 = .ok (.aload_n 0, 1) := by decide +kernel
theorem dX6_store_163 : decode cX6_store 163 = .ok (.getfield 10, 3) := by decide +kernel
theorem dX6_store_166 : decode cX6_store 166 = .ok (.getfield 117, 3) := by decide +kernel
theorem dX6_store_169 : decode cX6_store 169 = .ok (.getfield 154, 3) := by decide +kernel
theorem dX6_store_172 : decode cX6_store 172 = .ok (.iload_n 1, 1) := by decide +kernel
theorem dX6_store_173 : decode cX6_store 173 = .ok (.invokevirtual 77, 3) := by decide +kernel
theorem dX6_store_176 : decode cX6_store 176 = .ok (.ireturn, 1) := by decide +kernel
theorem dX6_store_177 : decode cX6_store 177 = .ok (.aload_n 0, 1) := by decide +kernel
theorem dX6_store_178 : decode cX6_store 178 = .ok (.getfield 10, 3) := by decide +kernel
theorem dX6_store_181 : decode cX6_store 181 = .ok (.getfield 117, 3) := by decide +kernel
theorem dX6_store_184 : decode cX6_store 184 = .ok (.iload_n 1, 1) := by decide +kernel
theorem dX6_store_185 : decode cX6_store 185 = .ok (.invokevirtual 157, 3) := by decide +kernel
theorem dX6_store_188 : decode cX6_store 188 = .ok (.ireturn, 1) := by decide +kernel
theorem dX6_store_189 : decode cX6_store 189 = .ok (.aload_n 0, 1) := by decide +kernel
theorem dX6_store_190 : decode cX6_store 190 = .ok (.getfield 10, 3) := by decide +kernel
theorem dX6_store_193 : decode cX6_store 193 = .ok (.getfield 117, 3) := by decide +kernel
theorem dX6_store_196 : decode cX6_store 196 = .ok (.iload_n 1, 1) := by decide +kernel
theorem dX6_store_197 : decode cX6_store 197 = .ok (.invokevirtual 160, 3) := by decide +kernel
theorem dX6_store_200 : decode cX6_store 200 = .ok (.ireturn, 1) := by decide +kernel
theorem dX6_store_201 : decode cX6_store 201 = .ok (.sipush (-1002), 3) := by decide +kernel
theorem dX6_store_204 : decode cX6_store 204 = .ok (.ireturn, 1) := by decide +kernel
set_option maxRecDepth 20000 in
theorem ggX6_gateOf_X6_isGate : GoodIn wsX6_gateOf wsX6_isGate := goodIn_r _ [15, 16, 17, 14, 18] (by decide +kernel) (by decide +kernel)
set_option maxRecDepth 20000 in
theorem gX6_gateOf_X6_isGate : GoodIn wsX6_gateOf (va_wsS RX6 85 yX6_isGate wsX6_isGate) := goodIn_app (goodIn_of _ (by decide +kernel)) ggX6_gateOf_X6_isGate
set_option maxRecDepth 20000 in
theorem ggX6_gateOf_X0_get : GoodIn wsX6_gateOf wsX0_get := goodIn_r _ [23, 24, 92] (by decide +kernel) (by decide +kernel)
set_option maxRecDepth 20000 in
theorem gX6_gateOf_X0_get : GoodIn wsX6_gateOf (wsV RX6 77 RX0 yX0_get wsX0_get) := goodIn_app (goodIn_of _ (by decide +kernel)) ggX6_gateOf_X0_get
set_option maxRecDepth 20000 in
theorem ggX6_gateOf_X5_isOpenAt : GoodIn wsX6_gateOf wsX5_isOpenAt := goodIn_r _ [29, 30, 31, 32, 33, 34, 35, 36, 37, 38, 39, 40, 41, 42, 43, 44, 45, 46, 47, 48, 49, 50, 51, 52, 53, 20, 21, 22, 23, 24, 54, 55, 56, 57, 58, 59, 60, 61, 62, 63, 64, 65, 66, 67, 68, 78, 79, 80, 81, 82, 83, 93, 94, 95, 96, 92, 84, 85, 86, 87, 88, 89, 90, 91] (by decide +kernel) (by decide +kernel)
set_option maxRecDepth 20000 in
theorem gX6_gateOf_X5_isOpenAt : GoodIn wsX6_gateOf (wsV RX6 166 RX5 yX5_isOpenAt wsX5_isOpenAt) := goodIn_app (goodIn_of _ (by decide +kernel)) ggX6_gateOf_X5_isOpenAt
theorem dX6_gateOf_0 : decode cX6_gateOf 0 = .ok (.iload_n 1, 1) := by decide +kernel
theorem dX6_gateOf_1 : decode cX6_gateOf 1 = .ok (.invokestatic 85, 3) := by decide +kernel
theorem dX6_gateOf_4 : decode cX6_gateOf 4 = .ok (.ifCond .ne 7, 3) := by decide +kernel
theorem dX6_gateOf_7 : decode cX6_gateOf 7 = .ok (.sipush (-1001), 3) := by decide +kernel
theorem dX6_gateOf_10 : decode cX6_gateOf 10 = .ok (.ireturn, 1) := by decide +kernel
theorem dX6_gateOf_11 : decode cX6_gateOf 11 = .ok (.iload_n 2, 1) := by decide +kernel
theorem dX6_gateOf_12 : decode cX6_gateOf 12 = .ok (.tableswitch 196 0 8 #[52, 67, 82, 97, 112, 136, 151, 166, 181], 52) := by decide +kernel
theorem dX6_gateOf_64 : decode cX6_gateOf 64 = .ok (.aload_n 0, 1) := by decide +kernel
theorem dX6_gateOf_65 : decode cX6_gateOf 65 = .ok (.getfield 10, 3) := by decide +kernel
theorem dX6_gateOf_68 : decode cX6_gateOf 68 = .ok (.getfield 88, 3) := by decide +kernel
theorem dX6_gateOf_71 : decode cX6_gateOf 71 = .ok (.getfield 97, 3) := by decide +kernel
theorem dX6_gateOf_74 : decode cX6_gateOf 74 = .ok (.iload_n 1, 1) := by decide +kernel
theorem dX6_gateOf_75 : decode cX6_gateOf 75 = .ok (.invokevirtual 77, 3) := by decide +kernel
theorem dX6_gateOf_78 : decode cX6_gateOf 78 = .ok (.ireturn, 1) := by decide +kernel
theorem dX6_gateOf_79 : decode cX6_gateOf 79 = .ok (.aload_n 0, 1) := by decide +kernel
theorem dX6_gateOf_80 : decode cX6_gateOf 80 = .ok (.getfield 10, 3) := by decide +kernel
theorem dX6_gateOf_83 : decode cX6_gateOf 83 = .ok (.getfield 88, 3) := by decide +kernel
theorem dX6_gateOf_86 : decode cX6_gateOf 86 = .ok (.getfield 100, 3) := by decide +kernel
theorem dX6_gateOf_89 : decode cX6_gateOf 89 = .ok (.iload_n 1, 1) := by decide +kernel
theorem dX6_gateOf_90 : decode cX6_gateOf 90 = .ok (.invokevirtual 77, 3) := by decide +kernel
theorem dX6_gateOf_93 : decode cX6_gateOf 93 = .ok (.ireturn, 1) := by decide +kernel
theorem dX6_gateOf_94 : decode cX6_gateOf 94 = .ok (.aload_n 0, 1) := by decide +kernel
theorem dX6_gateOf_95 : decode cX6_gateOf 95 = .ok (.getfield 10, 3) := by decide +kernel
theorem dX6_gateOf_98 : decode cX6_gateOf 98 = .ok (.getfield 88, 3) := by decide +kernel
theorem dX6_gateOf_101 : decode cX6_gateOf 101 = .ok (.getfield 163, 3) := by decide +kernel
theorem dX6_gateOf_104 : decode cX6_gateOf 104 = .ok (.iload_n 1, 1) := by decide +kernel
theorem dX6_gateOf_105 : decode cX6_gateOf 105 = .ok (.invokevirtual 77, 3) := by decide +kernel
theorem dX6_gateOf_108 : decode cX6_gateOf 108 = .ok (.ireturn, 1) := by decide +kernel
theorem dX6_gateOf_109 : decode cX6_gateOf 109 = .ok (.aload_n 0, 1) := by decide +kernel
theorem dX6_gateOf_110 : decode cX6_gateOf 110 = .ok (.getfield 10, 3) := by decide +kernel
theorem dX6_gateOf_113 : decode cX6_gateOf 113 = .ok (.getfield 88, 3) := by decide +kernel
theorem dX6_gateOf_116 : decode cX6_gateOf 116 = .ok (.getfield 107, 3) := by decide +kernel
theorem dX6_gateOf_119 : decode cX6_gateOf 119 = .ok (.iload_n 1, 1) := by decide +kernel
theorem dX6_gateOf_120 : decode cX6_gateOf 120 = .ok (.invokevirtual 77, 3) := by decide +kernel
theorem dX6_gateOf_123 : decode cX6_gateOf 123 = .ok (.ireturn, 1) := by decide +kernel
theorem dX6_gateOf_124 : decode cX6_gateOf 124 = .ok (.aload_n 0, 1) := by decide +kernel
theorem dX6_gateOf_125 : decode cX6_gateOf 125 = .ok (.getfield 10, 3) := by decide +kernel
theorem dX6_gateOf_128 : decode cX6_gateOf 128 = .ok (.iload_n 1, 1) := by decide +kernel
theorem dX6_gateOf_129 : decode cX6_gateOf 129 = .ok (.aload_n 0, 1) := by decide +kernel
theorem dX6_gateOf_130 : decode cX6_gateOf 130 = .ok (.getfield 10, 3) := by decide +kernel
theorem dX6_gateOf_133 : decode cX6_gateOf 133 = .ok (.getfield 66, 3) := by decide +kernel
theorem dX6_gateOf_136 : decode cX6_gateOf 136 = .ok (.invokevirtual 166, 3) := by decide +kernel
theorem dX6_gateOf_139 : decode cX6_gateOf 139 = .ok (.ifCond .eq 7, 3) := by decide +kernel
theorem dX6_gateOf_142 : decode cX6_gateOf 142 = .ok (.iconst 1, 1) := by decide +kernel
theorem dX6_gateOf_143 : decode cX6_gateOf 143 = .ok (.goto 4, 3) := by decide +kernel
theorem dX6_gateOf_146 : decode cX6_gateOf 146 = .ok (.iconst 0, 1) := by decide +kernel
theorem dX6_gateOf_147 : decode cX6_gateOf 147 = .ok (.ireturn, 1) := by decide +kernel
theorem dX6_gateOf_148 : decode cX6_gateOf 148 = .ok (.aload_n 0, 1) := by decide +kernel
theorem dX6_gateOf_149 : decode cX6_gateOf 149 = .ok (.getfield 10, 3) := by decide +kernel
theorem dX6_gateOf_152 : decode cX6_gateOf 152 = .ok (.getfield 88, 3) := by decide +kernel
theorem dX6_gateOf_155 : decode cX6_gateOf 155 = .ok (.getfield 170, 3) := by decide +kernel
theorem dX6_gateOf_158 : decode cX6_gateOf 158 = .ok (.iload_n 1, 1) := by decide +kernel
theorem dX6_gateOf_159 : decode cX6_gateOf 159 = .ok (.invokevirtual 77, 3) := by decide +kernel
theorem dX6_gateOf_162 : decode cX6_gateOf 162 = .ok (.ireturn, 1) := by decide +kernel
theorem dX6_gateOf_163 : decode cX6_gateOf 163 = .ok (.aload_n 0, 1) := by decide +kernel
theorem dX6_gateOf_164 : decode cX6_gateOf 164 = .ok (.getfield 10, 3) := by decide +kernel
theorem dX6_gateOf_167 : decode cX6_gateOf 167 = .ok (.getfield 88, 3) := by decide +kernel
theorem dX6_gateOf_170 : decode cX6_gateOf 170 = .ok (.getfield 173, 3) := by decide +kernel
theorem dX6_gateOf_173 : decode cX6_gateOf 173 = .ok (.iload_n 1, 1) := by decide +kernel
theorem dX6_gateOf_174 : decode cX6_gateOf 174 = .ok (.invokevirtual 77, 3) := by decide +kernel
theorem dX6_gateOf_177 : decode cX6_gateOf 177 = .ok (.ireturn, 1) := by decide +kernel
theorem dX6_gateOf_178 : decode cX6_gateOf 178 = .ok (.aload_n 0, 1) := by decide +kernel
theorem dX6_gateOf_179 : decode cX6_gateOf 179 = .ok (.getfield 10, 3) := by decide +kernel
theorem dX6_gateOf_182 : decode cX6_gateOf 182 = .ok (.getfield 88, 3) := by decide +kernel
theorem dX6_gateOf_185 : decode cX6_gateOf 185 = .ok (.getfield 136, 3) := by decide +kernel
theorem dX6_gateOf_188 : decode cX6_gateOf 188 = .ok (.iload_n 1, 1) := by decide +kernel
theorem dX6_gateOf_189 : decode cX6_gateOf 189 = .ok (.invokevirtual 77, 3) := by decide +kernel
theorem dX6_gateOf_192 : decode cX6_gateOf 192 = .ok (.ireturn, 1) := by decide +kernel
theorem dX6_gateOf_193 : decode cX6_gateOf 193 = .ok (.aload_n 0, 1) := by decide +kernel
theorem dX6_gateOf_194 : decode cX6_gateOf 194 = .ok (.getfield 10, 3) := by decide +kernel
theorem dX6_gateOf_197 : decode cX6_gateOf 197 = .ok (.getfield 88, 3) := by decide +kernel
theorem dX6_gateOf_200 : decode cX6_gateOf 200 = .ok (.getfield 176, 3) := by decide +kernel
theorem dX6_gateOf_203 : decode cX6_gateOf 203 = .ok (.iload_n 1, 1) := by decide +kernel
theorem dX6_gateOf_204 : decode cX6_gateOf 204 = .ok (.invokevirtual 77, 3) := by decide +kernel
theorem dX6_gateOf_207 : decode cX6_gateOf 207 = .ok (.ireturn, 1) := by decide +kernel
theorem dX6_gateOf_208 : decode cX6_gateOf 208 = .ok (.sipush (-1002), 3) := by decide +kernel
theorem dX6_gateOf_211 : decode cX6_gateOf 211 = .ok (.ireturn, 1) := by decide +kernel
set_option maxRecDepth 20000 in
theorem ggX6_word_X6_isWord : GoodIn wsX6_word wsX6_isWord := goodIn_r _ [11, 1, 2, 12, 13, 14, 10, 15, 64, 65, 66, 67, 68, 69, 70, 71, 72, 73, 74, 75, 76, 77, 78, 79, 80, 81, 82, 83, 84, 85, 86] (by decide +kernel) (by decide +kernel)
set_option maxRecDepth 20000 in
theorem gX6_word_X6_isWord : GoodIn wsX6_word (wsV RX6 179 RX6 yX6_isWord wsX6_isWord) := goodIn_app (goodIn_of _ (by decide +kernel)) ggX6_word_X6_isWord
set_option maxRecDepth 20000 in
theorem ggX6_word_X5_whereIs : GoodIn wsX6_word wsX5_whereIs := goodIn_r _ [20, 21, 22, 23, 24, 25, 26, 27, 28, 29, 30, 31, 32, 33, 34, 35, 36, 37, 38, 39, 40, 41, 42, 43, 44, 45, 46, 73, 74, 75, 76, 77, 78, 87, 88, 89, 90, 91, 92, 93, 94, 95, 79, 80, 81, 82, 83, 84, 85, 86] (by decide +kernel) (by decide +kernel)
set_option maxRecDepth 20000 in
theorem gX6_word_X5_whereIs : GoodIn wsX6_word (wsV RX6 182 RX5 yX5_whereIs wsX5_whereIs) := goodIn_app (goodIn_of _ (by decide +kernel)) ggX6_word_X5_whereIs
set_option maxRecDepth 20000 in
theorem ggX6_word_X4_placeOf : GoodIn wsX6_word wsX4_placeOf := goodIn_r _ [50, 51, 36, 37, 38, 39, 40, 41, 30, 31, 32, 33, 34, 42, 43, 44, 45, 46, 79, 80, 81, 82, 83, 84, 85, 86, 95] (by decide +kernel) (by decide +kernel)
set_option maxRecDepth 20000 in
theorem gX6_word_X4_placeOf : GoodIn wsX6_word (wsV RX6 185 RX4 yX4_placeOf wsX4_placeOf) := goodIn_app (goodIn_of _ (by decide +kernel)) ggX6_word_X4_placeOf
set_option maxRecDepth 20000 in
theorem ggX6_word_X0_get : GoodIn wsX6_word wsX0_get := goodIn_r _ [33, 34, 95] (by decide +kernel) (by decide +kernel)
set_option maxRecDepth 20000 in
theorem gX6_word_X0_get : GoodIn wsX6_word (wsV RX6 77 RX0 yX0_get wsX0_get) := goodIn_app (goodIn_of _ (by decide +kernel)) ggX6_word_X0_get
set_option maxRecDepth 20000 in
theorem ggX6_word_X4_hasPassed : GoodIn wsX6_word wsX4_hasPassed := goodIn_r _ [56, 57, 41, 30, 31, 32, 33, 34, 79, 80, 81, 82, 83, 84, 85, 86, 95] (by decide +kernel) (by decide +kernel)
set_option maxRecDepth 20000 in
theorem gX6_word_X4_hasPassed : GoodIn wsX6_word (wsV RX6 191 RX4 yX4_hasPassed wsX4_hasPassed) := goodIn_app (goodIn_of _ (by decide +kernel)) ggX6_word_X4_hasPassed
set_option maxRecDepth 20000 in
theorem ggX6_word_X4_letterOf : GoodIn wsX6_word wsX4_letterOf := goodIn_r _ [61, 62, 63, 41, 30, 31, 32, 33, 34, 79, 80, 81, 82, 83, 84, 85, 86, 95] (by decide +kernel) (by decide +kernel)
set_option maxRecDepth 20000 in
theorem gX6_word_X4_letterOf : GoodIn wsX6_word (wsV RX6 203 RX4 yX4_letterOf wsX4_letterOf) := goodIn_app (goodIn_of _ (by decide +kernel)) ggX6_word_X4_letterOf
theorem dX6_word_0 : decode cX6_word 0 = .ok (.aload_n 0, 1) := by decide +kernel
theorem dX6_word_1 : decode cX6_word 1 = .ok (.iload_n 1, 1) := by decide +kernel
theorem dX6_word_2 : decode cX6_word 2 = .ok (.invokevirtual 179, 3) := by decide +kernel
theorem dX6_word_5 : decode cX6_word 5 = .ok (.ifCond .ne 7, 3) := by decide +kernel
theorem dX6_word_8 : decode cX6_word 8 = .ok (.sipush (-1001), 3) := by decide +kernel
theorem dX6_word_11 : decode cX6_word 11 = .ok (.ireturn, 1) := by decide +kernel
theorem dX6_word_12 : decode cX6_word 12 = .ok (.iload_n 2, 1) := by decide +kernel
theorem dX6_word_13 : decode cX6_word 13 = .ok (.ifCond .ge 7, 3) := by decide +kernel
theorem dX6_word_16 : decode cX6_word 16 = .ok (.sipush (-1002), 3) := by decide +kernel
theorem dX6_word_19 : decode cX6_word 19 = .ok (.ireturn, 1) := by decide +kernel
theorem dX6_word_20 : decode cX6_word 20 = .ok (.iload_n 2, 1) := by decide +kernel
theorem dX6_word_21 : decode cX6_word 21 = .ok (.tableswitch 144 0 6 #[43, 52, 64, 79, 99, 114, 129], 43) := by decide +kernel
theorem dX6_word_64 : decode cX6_word 64 = .ok (.aload_n 0, 1) := by decide +kernel
theorem dX6_word_65 : decode cX6_word 65 = .ok (.getfield 10, 3) := by decide +kernel
theorem dX6_word_68 : decode cX6_word 68 = .ok (.iload_n 1, 1) := by decide +kernel
theorem dX6_word_69 : decode cX6_word 69 = .ok (.invokevirtual 182, 3) := by decide +kernel
theorem dX6_word_72 : decode cX6_word 72 = .ok (.ireturn, 1) := by decide +kernel
theorem dX6_word_73 : decode cX6_word 73 = .ok (.aload_n 0, 1) := by decide +kernel
theorem dX6_word_74 : decode cX6_word 74 = .ok (.getfield 10, 3) := by decide +kernel
theorem dX6_word_77 : decode cX6_word 77 = .ok (.getfield 117, 3) := by decide +kernel
theorem dX6_word_80 : decode cX6_word 80 = .ok (.iload_n 1, 1) := by decide +kernel
theorem dX6_word_81 : decode cX6_word 81 = .ok (.invokevirtual 185, 3) := by decide +kernel
theorem dX6_word_84 : decode cX6_word 84 = .ok (.ireturn, 1) := by decide +kernel
theorem dX6_word_85 : decode cX6_word 85 = .ok (.aload_n 0, 1) := by decide +kernel
theorem dX6_word_86 : decode cX6_word 86 = .ok (.getfield 10, 3) := by decide +kernel
theorem dX6_word_89 : decode cX6_word 89 = .ok (.getfield 117, 3) := by decide +kernel
theorem dX6_word_92 : decode cX6_word 92 = .ok (.getfield 188, 3) := by decide +kernel
theorem dX6_word_95 : decode cX6_word 95 = .ok (.iload_n 1, 1) := by decide +kernel
theorem dX6_word_96 : decode cX6_word 96 = .ok (.invokevirtual 77, 3) := by decide +kernel
theorem dX6_word_99 : decode cX6_word 99 = .ok (.ireturn, 1) := by decide +kernel
theorem dX6_word_100 : decode cX6_word 100 = .ok (.aload_n 0, 1) := by decide +kernel
theorem dX6_word_101 : decode cX6_word 101 = .ok (.getfield 10, 3) := by decide +kernel
theorem dX6_word_104 : decode cX6_word 104 = .ok (.getfield 117, 3) := by decide +kernel
theorem dX6_word_107 : decode cX6_word 107 = .ok (.iload_n 1, 1) := by decide +kernel
theorem dX6_word_108 : decode cX6_word 108 = .ok (.invokevirtual 191, 3) := by decide +kernel
theorem dX6_word_111 : decode cX6_word 111 = .ok (.ifCond .eq 7, 3) := by decide +kernel
theorem dX6_word_114 : decode cX6_word 114 = .ok (.iconst 1, 1) := by decide +kernel
theorem dX6_word_115 : decode cX6_word 115 = .ok (.goto 4, 3) := by decide +kernel
theorem dX6_word_118 : decode cX6_word 118 = .ok (.iconst 0, 1) := by decide +kernel
theorem dX6_word_119 : decode cX6_word 119 = .ok (.ireturn, 1) := by decide +kernel
theorem dX6_word_120 : decode cX6_word 120 = .ok (.aload_n 0, 1) := by decide +kernel
theorem dX6_word_121 : decode cX6_word 121 = .ok (.getfield 10, 3) := by decide +kernel
theorem dX6_word_124 : decode cX6_word 124 = .ok (.getfield 117, 3) := by decide +kernel
theorem dX6_word_127 : decode cX6_word 127 = .ok (.getfield 194, 3) := by decide +kernel
theorem dX6_word_130 : decode cX6_word 130 = .ok (.iload_n 1, 1) := by decide +kernel
theorem dX6_word_131 : decode cX6_word 131 = .ok (.invokevirtual 77, 3) := by decide +kernel
theorem dX6_word_134 : decode cX6_word 134 = .ok (.ireturn, 1) := by decide +kernel
theorem dX6_word_135 : decode cX6_word 135 = .ok (.aload_n 0, 1) := by decide +kernel
theorem dX6_word_136 : decode cX6_word 136 = .ok (.getfield 10, 3) := by decide +kernel
theorem dX6_word_139 : decode cX6_word 139 = .ok (.getfield 117, 3) := by decide +kernel
theorem dX6_word_142 : decode cX6_word 142 = .ok (.getfield 197, 3) := by decide +kernel
theorem dX6_word_145 : decode cX6_word 145 = .ok (.iload_n 1, 1) := by decide +kernel
theorem dX6_word_146 : decode cX6_word 146 = .ok (.invokevirtual 77, 3) := by decide +kernel
theorem dX6_word_149 : decode cX6_word 149 = .ok (.ireturn, 1) := by decide +kernel
theorem dX6_word_150 : decode cX6_word 150 = .ok (.aload_n 0, 1) := by decide +kernel
theorem dX6_word_151 : decode cX6_word 151 = .ok (.getfield 10, 3) := by decide +kernel
theorem dX6_word_154 : decode cX6_word 154 = .ok (.getfield 117, 3) := by decide +kernel
theorem dX6_word_157 : decode cX6_word 157 = .ok (.getfield 200, 3) := by decide +kernel
theorem dX6_word_160 : decode cX6_word 160 = .ok (.iload_n 1, 1) := by decide +kernel
theorem dX6_word_161 : decode cX6_word 161 = .ok (.invokevirtual 77, 3) := by decide +kernel
theorem dX6_word_164 : decode cX6_word 164 = .ok (.ireturn, 1) := by decide +kernel
theorem dX6_word_165 : decode cX6_word 165 = .ok (.aload_n 0, 1) := by decide +kernel
theorem dX6_word_166 : decode cX6_word 166 = .ok (.getfield 10, 3) := by decide +kernel
theorem dX6_word_169 : decode cX6_word 169 = .ok (.getfield 117, 3) := by decide +kernel
theorem dX6_word_172 : decode cX6_word 172 = .ok (.iload_n 1, 1) := by decide +kernel
theorem dX6_word_173 : decode cX6_word 173 = .ok (.iload_n 2, 1) := by decide +kernel
theorem dX6_word_174 : decode cX6_word 174 = .ok (.bipush 7, 2) := by decide +kernel
theorem dX6_word_176 : decode cX6_word 176 = .ok (.isub, 1) := by decide +kernel
theorem dX6_word_177 : decode cX6_word 177 = .ok (.invokevirtual 203, 3) := by decide +kernel
theorem dX6_word_180 : decode cX6_word 180 = .ok (.ireturn, 1) := by decide +kernel
set_option maxRecDepth 20000 in
theorem ggX6_at_X6_isStore : GoodIn wsX6_at wsX6_isStore := goodIn_r _ [7, 8, 9, 6, 10] (by decide +kernel) (by decide +kernel)
set_option maxRecDepth 20000 in
theorem gX6_at_X6_isStore : GoodIn wsX6_at (va_wsS RX6 45 yX6_isStore wsX6_isStore) := goodIn_app (goodIn_of _ (by decide +kernel)) ggX6_at_X6_isStore
set_option maxRecDepth 20000 in
theorem ggX6_at_X0_get : GoodIn wsX6_at wsX0_get := goodIn_r _ [15, 16, 47] (by decide +kernel) (by decide +kernel)
set_option maxRecDepth 20000 in
theorem gX6_at_X0_get : GoodIn wsX6_at (wsV RX6 77 RX0 yX0_get wsX0_get) := goodIn_app (goodIn_of _ (by decide +kernel)) ggX6_at_X0_get
set_option maxRecDepth 20000 in
theorem ggX6_at_X6_isWithin : GoodIn wsX6_at wsX6_isWithin := goodIn_r _ [10] (by decide +kernel) (by decide +kernel)
set_option maxRecDepth 20000 in
theorem gX6_at_X6_isWithin : GoodIn wsX6_at (va_wsS RX6 49 yX6_isWithin wsX6_isWithin) := goodIn_app (goodIn_of _ (by decide +kernel)) ggX6_at_X6_isWithin
set_option maxRecDepth 20000 in
theorem ggX6_at_X4_wordAt : GoodIn wsX6_at wsX4_wordAt := goodIn_r _ [21, 22, 23, 12, 13, 14, 15, 16, 39, 40, 41, 42, 43, 44, 45, 46, 47] (by decide +kernel) (by decide +kernel)
set_option maxRecDepth 20000 in
theorem gX6_at_X4_wordAt : GoodIn wsX6_at (wsV RX6 206 RX4 yX4_wordAt wsX4_wordAt) := goodIn_app (goodIn_of _ (by decide +kernel)) ggX6_at_X4_wordAt
theorem dX6_at_0 : decode cX6_at 0 = .ok (.iload_n 1, 1) := by decide +kernel
theorem dX6_at_1 : decode cX6_at 1 = .ok (.invokestatic 45, 3) := by decide +kernel
theorem dX6_at_4 : decode cX6_at 4 = .ok (.ifCond .eq 27, 3) := by decide +kernel
theorem dX6_at_7 : decode cX6_at 7 = .ok (.iload_n 2, 1) := by decide +kernel
theorem dX6_at_8 : decode cX6_at 8 = .ok (.iconst 0, 1) := by decide +kernel
theorem dX6_at_9 : decode cX6_at 9 = .ok (.aload_n 0, 1) := by decide +kernel
theorem dX6_at_10 : decode cX6_at 10 = .ok (.getfield 10, 3) := by decide +kernel
theorem dX6_at_13 : decode cX6_at 13 = .ok (.getfield 117, 3) := by decide +kernel
theorem dX6_at_16 : decode cX6_at 16 = .ok (.getfield 154, 3) := by decide +kernel
theorem dX6_at_19 : decode cX6_at 19 = .ok (.iload_n 1, 1) := by decide +kernel
theorem dX6_at_20 : decode cX6_at 20 = .ok (.invokevirtual 77, 3) := by decide +kernel
theorem dX6_at_23 : decode cX6_at 23 = .ok (.iconst 1, 1) := by decide +kernel
theorem dX6_at_24 : decode cX6_at 24 = .ok (.isub, 1) := by decide +kernel
theorem dX6_at_25 : decode cX6_at 25 = .ok (.invokestatic 49, 3) := by decide +kernel
theorem dX6_at_28 : decode cX6_at 28 = .ok (.ifCond .ne 7, 3) := by decide +kernel
theorem dX6_at_31 : decode cX6_at 31 = .ok (.sipush (-1001), 3) := by decide +kernel
theorem dX6_at_34 : decode cX6_at 34 = .ok (.ireturn, 1) := by decide +kernel
theorem dX6_at_35 : decode cX6_at 35 = .ok (.aload_n 0, 1) := by decide +kernel
theorem dX6_at_36 : decode cX6_at 36 = .ok (.getfield 10, 3) := by decide +kernel
theorem dX6_at_39 : decode cX6_at 39 = .ok (.getfield 117, 3) := by decide +kernel
theorem dX6_at_42 : decode cX6_at 42 = .ok (.iload_n 1, 1) := by decide +kernel
theorem dX6_at_43 : decode cX6_at 43 = .ok (.iload_n 2, 1) := by decide +kernel
theorem dX6_at_44 : decode cX6_at 44 = .ok (.invokevirtual 206, 3) := by decide +kernel
theorem dX6_at_47 : decode cX6_at 47 = .ok (.ireturn, 1) := by decide +kernel
set_option maxRecDepth 20000 in
theorem ggX6_count_X0_sum : GoodIn wsX6_count wsX0_sum := goodIn_r _ [17, 18, 130] (by decide +kernel) (by decide +kernel)
set_option maxRecDepth 20000 in
theorem gX6_count_X0_sum : GoodIn wsX6_count (wsV RX6 110 RX0 yX0_sum wsX0_sum) := goodIn_app (goodIn_of _ (by decide +kernel)) ggX6_count_X0_sum
set_option maxRecDepth 20000 in
theorem ggX6_count_X4_waitingInRow : GoodIn wsX6_count wsX4_waitingInRow := goodIn_r _ [23, 24, 25, 26, 27, 16, 28, 18, 29, 30, 31, 22, 32, 33, 34, 35, 36, 37, 38, 112, 113, 114, 115, 116, 117, 118, 119, 130] (by decide +kernel) (by decide +kernel)
set_option maxRecDepth 20000 in
theorem gX6_count_X4_waitingInRow : GoodIn wsX6_count (wsV RX6 160 RX4 yX4_waitingInRow wsX4_waitingInRow) := goodIn_app (goodIn_of _ (by decide +kernel)) ggX6_count_X4_waitingInRow
set_option maxRecDepth 20000 in
theorem ggX6_count_X1_wordsInside : GoodIn wsX6_count wsX1_wordsInside := goodIn_r _ [43, 44, 45, 46, 42, 47, 48, 49, 26, 27, 16, 28, 18, 120, 121, 122, 123, 124, 125, 126, 127, 130] (by decide +kernel) (by decide +kernel)
set_option maxRecDepth 20000 in
theorem gX6_count_X1_wordsInside : GoodIn wsX6_count (wsV RX6 209 RX1 yX1_wordsInside wsX1_wordsInside) := goodIn_app (goodIn_of _ (by decide +kernel)) ggX6_count_X1_wordsInside
set_option maxRecDepth 20000 in
theorem ggX6_count_X5_openMask : GoodIn wsX6_count wsX5_openMask := goodIn_r _ [54, 55, 56, 57, 58, 53, 59, 60, 61, 62, 63, 64, 65, 66, 67, 68, 69, 70, 71, 72, 73, 74, 75, 76, 77, 78, 79, 80, 81, 82, 83, 26, 27, 16, 28, 18, 84, 85, 86, 42, 87, 88, 89, 90, 91, 92, 93, 94, 95, 96, 49, 106, 107, 108, 109, 110, 111, 131, 132, 133, 134, 130, 120, 121, 122, 123, 124, 125, 126, 127] (by decide +kernel) (by decide +kernel)
set_option maxRecDepth 20000 in
theorem gX6_count_X5_openMask : GoodIn wsX6_count (wsV RX6 213 RX5 yX5_openMask wsX5_openMask) := goodIn_app (goodIn_of _ (by decide +kernel)) ggX6_count_X5_openMask
theorem dX6_count_0 : decode cX6_count 0 = .ok (.iload_n 1, 1) := by decide +kernel
theorem dX6_count_1 : decode cX6_count 1 = .ok (.tableswitch 178 0 10 #[59, 67, 78, 92, 116, 127, 135, 149, 157, 165, 173], 59) := by decide +kernel
theorem dX6_count_60 : decode cX6_count 60 = .ok (.aload_n 0, 1) := by decide +kernel
theorem dX6_count_61 : decode cX6_count 61 = .ok (.getfield 10, 3) := by decide +kernel
theorem dX6_count_64 : decode cX6_count 64 = .ok (.getfield 66, 3) := by decide +kernel
theorem dX6_count_67 : decode cX6_count 67 = .ok (.ireturn, 1) := by decide +kernel
theorem dX6_count_68 : decode cX6_count 68 = .ok (.aload_n 0, 1) := by decide +kernel
theorem dX6_count_69 : decode cX6_count 69 = .ok (.getfield 10, 3) := by decide +kernel
theorem dX6_count_72 : decode cX6_count 72 = .ok (.getfield 117, 3) := by decide +kernel
theorem dX6_count_75 : decode cX6_count 75 = .ok (.getfield 121, 3) := by decide +kernel
theorem dX6_count_78 : decode cX6_count 78 = .ok (.ireturn, 1) := by decide +kernel
theorem dX6_count_79 : decode cX6_count 79 = .ok (.aload_n 0, 1) := by decide +kernel
theorem dX6_count_80 : decode cX6_count 80 = .ok (.getfield 10, 3) := by decide +kernel
theorem dX6_count_83 : decode cX6_count 83 = .ok (.getfield 88, 3) := by decide +kernel
theorem dX6_count_86 : decode cX6_count 86 = .ok (.getfield 136, 3) := by decide +kernel
theorem dX6_count_89 : decode cX6_count 89 = .ok (.invokevirtual 110, 3) := by decide +kernel
theorem dX6_count_92 : decode cX6_count 92 = .ok (.ireturn, 1) := by decide +kernel
theorem dX6_count_93 : decode cX6_count 93 = .ok (.aload_n 0, 1) := by decide +kernel
theorem dX6_count_94 : decode cX6_count 94 = .ok (.getfield 10, 3) := by decide +kernel
theorem dX6_count_97 : decode cX6_count 97 = .ok (.getfield 117, 3) := by decide +kernel
theorem dX6_count_100 : decode cX6_count 100 = .ok (.iconst 0, 1) := by decide +kernel
theorem dX6_count_101 : decode cX6_count 101 = .ok (.invokevirtual 160, 3) := by decide +kernel
theorem dX6_count_104 : decode cX6_count 104 = .ok (.aload_n 0, 1) := by decide +kernel
theorem dX6_count_105 : decode cX6_count 105 = .ok (.getfield 10, 3) := by decide +kernel
theorem dX6_count_108 : decode cX6_count 108 = .ok (.getfield 117, 3) := by decide +kernel
theorem dX6_count_111 : decode cX6_count 111 = .ok (.iconst 1, 1) := by decide +kernel
theorem dX6_count_112 : decode cX6_count 112 = .ok (.invokevirtual 160, 3) := by decide +kernel
theorem dX6_count_115 : decode cX6_count 115 = .ok (.iadd, 1) := by decide +kernel
theorem dX6_count_116 : decode cX6_count 116 = .ok (.ireturn, 1) := by decide +kernel
theorem dX6_count_117 : decode cX6_count 117 = .ok (.aload_n 0, 1) := by decide +kernel
theorem dX6_count_118 : decode cX6_count 118 = .ok (.getfield 10, 3) := by decide +kernel
theorem dX6_count_121 : decode cX6_count 121 = .ok (.getfield 88, 3) := by decide +kernel
theorem dX6_count_124 : decode cX6_count 124 = .ok (.invokevirtual 209, 3) := by decide +kernel
theorem dX6_count_127 : decode cX6_count 127 = .ok (.ireturn, 1) := by decide +kernel
theorem dX6_count_128 : decode cX6_count 128 = .ok (.aload_n 0, 1) := by decide +kernel
theorem dX6_count_129 : decode cX6_count 129 = .ok (.getfield 10, 3) := by decide +kernel
theorem dX6_count_132 : decode cX6_count 132 = .ok (.getfield 210, 3) := by decide +kernel
theorem dX6_count_135 : decode cX6_count 135 = .ok (.ireturn, 1) := by decide +kernel
theorem dX6_count_136 : decode cX6_count 136 = .ok (.aload_n 0, 1) := by decide +kernel
theorem dX6_count_137 : decode cX6_count 137 = .ok (.getfield 10, 3) := by decide +kernel
theorem dX6_count_140 : decode cX6_count 140 = .ok (.getfield 88, 3) := by decide +kernel
theorem dX6_count_143 : decode cX6_count 143 = .ok (.getfield 176, 3) := by decide +kernel
theorem dX6_count_146 : decode cX6_count 146 = .ok (.invokevirtual 110, 3) := by decide +kernel
theorem dX6_count_149 : decode cX6_count 149 = .ok (.ireturn, 1) := by decide +kernel
theorem dX6_count_150 : decode cX6_count 150 = .ok (.aload_n 0, 1) := by decide +kernel
theorem dX6_count_151 : decode cX6_count 151 = .ok (.getfield 10, 3) := by decide +kernel
theorem dX6_count_154 : decode cX6_count 154 = .ok (.invokevirtual 213, 3) := by decide +kernel
theorem dX6_count_157 : decode cX6_count 157 = .ok (.ireturn, 1) := by decide +kernel
theorem dX6_count_158 : decode cX6_count 158 = .ok (.aload_n 0, 1) := by decide +kernel
theorem dX6_count_159 : decode cX6_count 159 = .ok (.getfield 10, 3) := by decide +kernel
theorem dX6_count_162 : decode cX6_count 162 = .ok (.getfield 216, 3) := by decide +kernel
theorem dX6_count_165 : decode cX6_count 165 = .ok (.ireturn, 1) := by decide +kernel
theorem dX6_count_166 : decode cX6_count 166 = .ok (.aload_n 0, 1) := by decide +kernel
theorem dX6_count_167 : decode cX6_count 167 = .ok (.getfield 22, 3) := by decide +kernel
theorem dX6_count_170 : decode cX6_count 170 = .ok (.getfield 132, 3) := by decide +kernel
theorem dX6_count_173 : decode cX6_count 173 = .ok (.ireturn, 1) := by decide +kernel
theorem dX6_count_174 : decode cX6_count 174 = .ok (.aload_n 0, 1) := by decide +kernel
theorem dX6_count_175 : decode cX6_count 175 = .ok (.getfield 219, 3) := by decide +kernel
theorem dX6_count_178 : decode cX6_count 178 = .ok (.ireturn, 1) := by decide +kernel
theorem dX6_count_179 : decode cX6_count 179 = .ok (.sipush (-1002), 3) := by decide +kernel
theorem dX6_count_182 : decode cX6_count 182 = .ok (.ireturn, 1) := by decide +kernel
set_option maxRecDepth 20000 in
theorem ggX6_untilOpen_X6_isGate : GoodIn wsX6_untilOpen wsX6_isGate := goodIn_r _ [5, 6, 7, 4, 8] (by decide +kernel) (by decide +kernel)
set_option maxRecDepth 20000 in
theorem gX6_untilOpen_X6_isGate : GoodIn wsX6_untilOpen (va_wsS RX6 85 yX6_isGate wsX6_isGate) := goodIn_app (goodIn_of _ (by decide +kernel)) ggX6_untilOpen_X6_isGate
set_option maxRecDepth 20000 in
theorem ggX6_untilOpen_X5_stepsUntilOpen : GoodIn wsX6_untilOpen wsX5_stepsUntilOpen := goodIn_r _ [13, 14, 15, 16, 17, 12, 18, 19, 20, 21, 22, 23, 24, 25, 26, 27, 28, 29, 30, 31, 32, 33, 34, 35, 36, 37, 38, 39, 40, 41, 42, 43, 44, 45, 46, 47, 48, 49, 50, 51, 52, 53, 54, 55, 56, 57, 58, 59, 60, 61, 62, 72, 73, 74, 75, 76, 77, 78, 79, 80, 81, 82, 83, 84, 85, 86, 87, 88, 89, 90] (by decide +kernel) (by decide +kernel)
set_option maxRecDepth 20000 in
theorem gX6_untilOpen_X5_stepsUntilOpen : GoodIn wsX6_untilOpen (wsV RX6 222 RX5 yX5_stepsUntilOpen wsX5_stepsUntilOpen) := goodIn_app (goodIn_of _ (by decide +kernel)) ggX6_untilOpen_X5_stepsUntilOpen
theorem dX6_untilOpen_0 : decode cX6_untilOpen 0 = .ok (.iload_n 1, 1) := by decide +kernel
theorem dX6_untilOpen_1 : decode cX6_untilOpen 1 = .ok (.invokestatic 85, 3) := by decide +kernel
theorem dX6_untilOpen_4 : decode cX6_untilOpen 4 = .ok (.ifCond .ne 7, 3) := by decide +kernel
theorem dX6_untilOpen_7 : decode cX6_untilOpen 7 = .ok (.sipush (-1001), 3) := by decide +kernel
theorem dX6_untilOpen_10 : decode cX6_untilOpen 10 = .ok (.ireturn, 1) := by decide +kernel
theorem dX6_untilOpen_11 : decode cX6_untilOpen 11 = .ok (.aload_n 0, 1) := by decide +kernel
theorem dX6_untilOpen_12 : decode cX6_untilOpen 12 = .ok (.getfield 10, 3) := by decide +kernel
theorem dX6_untilOpen_15 : decode cX6_untilOpen 15 = .ok (.iload_n 1, 1) := by decide +kernel
theorem dX6_untilOpen_16 : decode cX6_untilOpen 16 = .ok (.invokevirtual 222, 3) := by decide +kernel
theorem dX6_untilOpen_19 : decode cX6_untilOpen 19 = .ok (.ireturn, 1) := by decide +kernel
set_option maxRecDepth 20000 in
theorem ggX6_openFor_X6_isGate : GoodIn wsX6_openFor wsX6_isGate := goodIn_r _ [6, 7, 8, 5, 9] (by decide +kernel) (by decide +kernel)
set_option maxRecDepth 20000 in
theorem gX6_openFor_X6_isGate : GoodIn wsX6_openFor (va_wsS RX6 85 yX6_isGate wsX6_isGate) := goodIn_app (goodIn_of _ (by decide +kernel)) ggX6_openFor_X6_isGate
set_option maxRecDepth 20000 in
theorem ggX6_openFor_X5_stepsUntilOpen : GoodIn wsX6_openFor wsX5_stepsUntilOpen := goodIn_r _ [14, 15, 16, 17, 18, 13, 19, 20, 21, 22, 23, 24, 25, 26, 27, 28, 29, 30, 31, 32, 33, 34, 35, 36, 37, 38, 39, 40, 41, 42, 43, 44, 45, 46, 47, 48, 49, 50, 51, 52, 53, 54, 55, 56, 57, 58, 59, 60, 61, 62, 63, 77, 78, 79, 80, 81, 82, 83, 84, 85, 86, 87, 88, 89, 90, 91, 92, 93, 94, 95] (by decide +kernel) (by decide +kernel)
set_option maxRecDepth 20000 in
theorem gX6_openFor_X5_stepsUntilOpen : GoodIn wsX6_openFor (wsV RX6 222 RX5 yX5_stepsUntilOpen wsX5_stepsUntilOpen) := goodIn_app (goodIn_of _ (by decide +kernel)) ggX6_openFor_X5_stepsUntilOpen
set_option maxRecDepth 20000 in
theorem ggX6_openFor_X5_openStepsFrom : GoodIn wsX6_openFor wsX5_openStepsFrom := goodIn_r _ [67, 16, 17, 18, 13, 19, 20, 21, 22, 23, 24, 25, 26, 27, 28, 29, 30, 31, 32, 33, 34, 35, 36, 37, 38, 39, 40, 41, 42, 43, 44, 45, 46, 47, 48, 49, 50, 51, 52, 53, 54, 55, 56, 57, 58, 59, 60, 61, 62, 63, 77, 78, 79, 80, 81, 82, 83, 84, 85, 86, 87, 88, 89, 90, 91, 92, 93, 94, 95] (by decide +kernel) (by decide +kernel)
set_option maxRecDepth 20000 in
theorem gX6_openFor_X5_openStepsFrom : GoodIn wsX6_openFor (wsV RX6 225 RX5 yX5_openStepsFrom wsX5_openStepsFrom) := goodIn_app (goodIn_of _ (by decide +kernel)) ggX6_openFor_X5_openStepsFrom
theorem dX6_openFor_0 : decode cX6_openFor 0 = .ok (.iload_n 1, 1) := by decide +kernel
theorem dX6_openFor_1 : decode cX6_openFor 1 = .ok (.invokestatic 85, 3) := by decide +kernel
theorem dX6_openFor_4 : decode cX6_openFor 4 = .ok (.ifCond .ne 7, 3) := by decide +kernel
theorem dX6_openFor_7 : decode cX6_openFor 7 = .ok (.sipush (-1001), 3) := by decide +kernel
theorem dX6_openFor_10 : decode cX6_openFor 10 = .ok (.ireturn, 1) := by decide +kernel
theorem dX6_openFor_11 : decode cX6_openFor 11 = .ok (.aload_n 0, 1) := by decide +kernel
theorem dX6_openFor_12 : decode cX6_openFor 12 = .ok (.getfield 10, 3) := by decide +kernel
theorem dX6_openFor_15 : decode cX6_openFor 15 = .ok (.iload_n 1, 1) := by decide +kernel
theorem dX6_openFor_16 : decode cX6_openFor 16 = .ok (.invokevirtual 222, 3) := by decide +kernel
theorem dX6_openFor_19 : decode cX6_openFor 19 = .ok (.istore_n 2, 1) := by decide +kernel
theorem dX6_openFor_20 : decode cX6_openFor 20 = .ok (.iload_n 2, 1) := by decide +kernel
theorem dX6_openFor_21 : decode cX6_openFor 21 = .ok (.sipush (-1006), 3) := by decide +kernel
theorem dX6_openFor_24 : decode cX6_openFor 24 = .ok (.if_icmp .ne 9, 3) := by decide +kernel
theorem dX6_openFor_27 : decode cX6_openFor 27 = .ok (.sipush (-1006), 3) := by decide +kernel
theorem dX6_openFor_30 : decode cX6_openFor 30 = .ok (.goto 20, 3) := by decide +kernel
theorem dX6_openFor_33 : decode cX6_openFor 33 = .ok (.aload_n 0, 1) := by decide +kernel
theorem dX6_openFor_34 : decode cX6_openFor 34 = .ok (.getfield 10, 3) := by decide +kernel
theorem dX6_openFor_37 : decode cX6_openFor 37 = .ok (.iload_n 1, 1) := by decide +kernel
theorem dX6_openFor_38 : decode cX6_openFor 38 = .ok (.aload_n 0, 1) := by decide +kernel
theorem dX6_openFor_39 : decode cX6_openFor 39 = .ok (.getfield 10, 3) := by decide +kernel
theorem dX6_openFor_42 : decode cX6_openFor 42 = .ok (.getfield 66, 3) := by decide +kernel
theorem dX6_openFor_45 : decode cX6_openFor 45 = .ok (.iload_n 2, 1) := by decide +kernel
theorem dX6_openFor_46 : decode cX6_openFor 46 = .ok (.iadd, 1) := by decide +kernel
theorem dX6_openFor_47 : decode cX6_openFor 47 = .ok (.invokevirtual 225, 3) := by decide +kernel
theorem dX6_openFor_50 : decode cX6_openFor 50 = .ok (.ireturn, 1) := by decide +kernel
set_option maxRecDepth 20000 in
theorem ggX6_untilPassed_X6_isWord : GoodIn wsX6_untilPassed wsX6_isWord := goodIn_r _ [8, 2, 3, 9, 10, 11, 7, 12, 181, 182, 183, 184, 185, 186, 187, 188, 189, 190, 191, 192, 193, 194, 195, 196, 197, 198, 199, 200, 201, 202, 203] (by decide +kernel) (by decide +kernel)
set_option maxRecDepth 20000 in
theorem gX6_untilPassed_X6_isWord : GoodIn wsX6_untilPassed (wsV RX6 179 RX6 yX6_isWord wsX6_isWord) := goodIn_app (goodIn_of _ (by decide +kernel)) ggX6_untilPassed_X6_isWord
set_option maxRecDepth 20000 in
theorem ggX6_untilPassed_X5_copyFrom : GoodIn wsX6_untilPassed wsX5_copyFrom := goodIn_r _ [17, 18, 19, 20, 21, 22, 23, 24, 25, 26, 27, 28, 29, 30, 31, 32, 33, 34, 35, 36, 37, 38, 39, 40, 41, 42, 43, 44, 45, 46, 47, 48, 49, 50, 51, 52, 53, 54, 55, 56, 57, 58, 59, 60, 61, 62, 63, 64, 65, 66, 67, 68, 69, 70, 71, 72, 73, 74, 190, 191, 192, 193, 194, 195, 204, 205, 206, 207, 208, 209, 210, 211, 212, 213, 214, 215, 216, 196, 197, 198, 199, 200, 201, 202, 203] (by decide +kernel) (by decide +kernel)
set_option maxRecDepth 20000 in
theorem gX6_untilPassed_X5_copyFrom : GoodIn wsX6_untilPassed (wsV RX6 228 RX5 yX5_copyFrom wsX5_copyFrom) := goodIn_app (goodIn_of _ (by decide +kernel)) ggX6_untilPassed_X5_copyFrom
set_option maxRecDepth 20000 in
theorem ggX6_untilPassed_X4_hasPassed : GoodIn wsX6_untilPassed wsX4_hasPassed := goodIn_r _ [78, 68, 79, 80, 81, 36, 82, 38, 196, 197, 198, 199, 200, 201, 202, 203, 208] (by decide +kernel) (by decide +kernel)
set_option maxRecDepth 20000 in
theorem gX6_untilPassed_X4_hasPassed : GoodIn wsX6_untilPassed (wsV RX6 191 RX4 yX4_hasPassed wsX4_hasPassed) := goodIn_app (goodIn_of _ (by decide +kernel)) ggX6_untilPassed_X4_hasPassed
set_option maxRecDepth 20000 in
theorem ggX6_untilPassed_X5_makeSteps : GoodIn wsX6_untilPassed wsX5_makeSteps := goodIn_r _ [86, 18, 21, 87, 88, 89, 27, 90, 91, 92, 93, 94, 32, 95, 96, 97, 98, 31, 29, 30, 99, 40, 41, 42, 100, 80, 81, 36, 82, 38, 101, 102, 103, 16, 104, 19, 23, 105, 106, 107, 50, 108, 109, 110, 111, 53, 112, 113, 114, 115, 55, 116, 117, 118, 119, 120, 121, 20, 122, 123, 124, 125, 126, 56, 127, 128, 129, 130, 64, 131, 72, 79, 132, 133, 134, 135, 71, 136, 76, 77, 78, 68, 137, 138, 139, 140, 141, 142, 143, 144, 145, 146, 147, 148, 149, 22, 150, 151, 152, 153, 154, 155, 156, 157, 158, 159, 160, 57, 161, 162, 163, 164, 165, 69, 166, 167, 168, 169, 170, 171, 172, 173, 174, 175, 176, 177, 178, 179, 180, 190, 191, 192, 193, 194, 195, 204, 205, 206, 207, 208, 209, 210, 211, 212, 213, 214, 215, 216, 196, 197, 198, 199, 200, 201, 202, 203] (by decide +kernel) (by decide +kernel)
set_option maxRecDepth 20000 in
theorem gX6_untilPassed_X5_makeSteps : GoodIn wsX6_untilPassed (wsV RX6 139 RX5 yX5_makeSteps wsX5_makeSteps) := goodIn_app (goodIn_of _ (by decide +kernel)) ggX6_untilPassed_X5_makeSteps
theorem dX6_untilPassed_0 : decode cX6_untilPassed 0 = .ok (.aload_n 0, 1) := by decide +kernel
theorem dX6_untilPassed_1 : decode cX6_untilPassed 1 = .ok (.iload_n 1, 1) := by decide +kernel
theorem dX6_untilPassed_2 : decode cX6_untilPassed 2 = .ok (.invokevirtual 179, 3) := by decide +kernel
theorem dX6_untilPassed_5 : decode cX6_untilPassed 5 = .ok (.ifCond .ne 7, 3) := by decide +kernel
theorem dX6_untilPassed_8 : decode cX6_untilPassed 8 = .ok (.sipush (-1001), 3) := by decide +kernel
theorem dX6_untilPassed_11 : decode cX6_untilPassed 11 = .ok (.ireturn, 1) := by decide +kernel
theorem dX6_untilPassed_12 : decode cX6_untilPassed 12 = .ok (.aload_n 0, 1) := by decide +kernel
theorem dX6_untilPassed_13 : decode cX6_untilPassed 13 = .ok (.getfield 16, 3) := by decide +kernel
theorem dX6_untilPassed_16 : decode cX6_untilPassed 16 = .ok (.aload_n 0, 1) := by decide +kernel
theorem dX6_untilPassed_17 : decode cX6_untilPassed 17 = .ok (.getfield 10, 3) := by decide +kernel
theorem dX6_untilPassed_20 : decode cX6_untilPassed 20 = .ok (.invokevirtual 228, 3) := by decide +kernel
theorem dX6_untilPassed_23 : decode cX6_untilPassed 23 = .ok (.iconst 0, 1) := by decide +kernel
theorem dX6_untilPassed_24 : decode cX6_untilPassed 24 = .ok (.istore_n 2, 1) := by decide +kernel
theorem dX6_untilPassed_25 : decode cX6_untilPassed 25 = .ok (.iload_n 2, 1) := by decide +kernel
theorem dX6_untilPassed_26 : decode cX6_untilPassed 26 = .ok (.sipush 1000, 3) := by decide +kernel
theorem dX6_untilPassed_29 : decode cX6_untilPassed 29 = .ok (.if_icmp .gt 33, 3) := by decide +kernel
theorem dX6_untilPassed_32 : decode cX6_untilPassed 32 = .ok (.aload_n 0, 1) := by decide +kernel
theorem dX6_untilPassed_33 : decode cX6_untilPassed 33 = .ok (.getfield 16, 3) := by decide +kernel
theorem dX6_untilPassed_36 : decode cX6_untilPassed 36 = .ok (.getfield 117, 3) := by decide +kernel
theorem dX6_untilPassed_39 : decode cX6_untilPassed 39 = .ok (.iload_n 1, 1) := by decide +kernel
theorem dX6_untilPassed_40 : decode cX6_untilPassed 40 = .ok (.invokevirtual 191, 3) := by decide +kernel
theorem dX6_untilPassed_43 : decode cX6_untilPassed 43 = .ok (.ifCond .eq 5, 3) := by decide +kernel
theorem dX6_untilPassed_46 : decode cX6_untilPassed 46 = .ok (.iload_n 2, 1) := by decide +kernel
theorem dX6_untilPassed_47 : decode cX6_untilPassed 47 = .ok (.ireturn, 1) := by decide +kernel
theorem dX6_untilPassed_48 : decode cX6_untilPassed 48 = .ok (.aload_n 0, 1) := by decide +kernel
theorem dX6_untilPassed_49 : decode cX6_untilPassed 49 = .ok (.getfield 16, 3) := by decide +kernel
theorem dX6_untilPassed_52 : decode cX6_untilPassed 52 = .ok (.iconst 1, 1) := by decide +kernel
theorem dX6_untilPassed_53 : decode cX6_untilPassed 53 = .ok (.invokevirtual 139, 3) := by decide +kernel
theorem dX6_untilPassed_56 : decode cX6_untilPassed 56 = .ok (.iinc 2 1, 3) := by decide +kernel
theorem dX6_untilPassed_59 : decode cX6_untilPassed 59 = .ok (.goto (-34), 3) := by decide +kernel
theorem dX6_untilPassed_62 : decode cX6_untilPassed 62 = .ok (.sipush (-1006), 3) := by decide +kernel
theorem dX6_untilPassed_65 : decode cX6_untilPassed 65 = .ok (.ireturn, 1) := by decide +kernel
set_option maxRecDepth 20000 in
theorem ggX6_ifRun_X6_isWithin : GoodIn wsX6_ifRun wsX6_isWithin := goodIn_r _ [6] (by decide +kernel) (by decide +kernel)
set_option maxRecDepth 20000 in
theorem gX6_ifRun_X6_isWithin : GoodIn wsX6_ifRun (va_wsS RX6 49 yX6_isWithin wsX6_isWithin) := goodIn_app (goodIn_of _ (by decide +kernel)) ggX6_ifRun_X6_isWithin
set_option maxRecDepth 20000 in
theorem ggX6_ifRun_X5_copyFrom : GoodIn wsX6_ifRun wsX5_copyFrom := goodIn_r _ [11, 12, 13, 14, 15, 16, 17, 18, 19, 20, 21, 22, 23, 24, 25, 26, 27, 28, 29, 30, 31, 32, 33, 34, 35, 36, 37, 38, 39, 40, 41, 42, 43, 44, 45, 46, 47, 48, 49, 50, 51, 52, 53, 54, 55, 56, 57, 58, 59, 60, 61, 62, 63, 64, 65, 66, 67, 68, 191, 192, 193, 194, 195, 196, 197, 198, 199, 200, 201, 202, 203, 204, 205, 206, 207, 208, 209, 210, 211, 212, 213, 214, 215, 216, 217] (by decide +kernel) (by decide +kernel)
set_option maxRecDepth 20000 in
theorem gX6_ifRun_X5_copyFrom : GoodIn wsX6_ifRun (wsV RX6 228 RX5 yX5_copyFrom wsX5_copyFrom) := goodIn_app (goodIn_of _ (by decide +kernel)) ggX6_ifRun_X5_copyFrom
set_option maxRecDepth 20000 in
theorem ggX6_ifRun_X5_makeSteps : GoodIn wsX6_ifRun wsX5_makeSteps := goodIn_r _ [72, 12, 15, 73, 74, 75, 21, 76, 77, 78, 79, 80, 26, 81, 82, 83, 84, 25, 23, 24, 85, 34, 35, 36, 86, 87, 88, 30, 89, 32, 90, 91, 92, 10, 93, 13, 17, 94, 95, 96, 44, 97, 98, 99, 100, 47, 101, 102, 103, 104, 49, 105, 106, 107, 108, 109, 110, 14, 111, 112, 113, 114, 115, 50, 116, 117, 118, 119, 58, 120, 66, 121, 122, 123, 124, 125, 65, 126, 127, 128, 129, 62, 130, 131, 132, 133, 134, 135, 136, 137, 138, 139, 140, 141, 142, 16, 143, 144, 145, 146, 147, 148, 149, 150, 151, 152, 153, 51, 154, 155, 156, 157, 158, 63, 159, 160, 161, 162, 163, 164, 165, 166, 167, 168, 169, 170, 171, 172, 173, 191, 192, 193, 194, 195, 196, 197, 198, 199, 200, 201, 202, 203, 204, 205, 206, 207, 208, 209, 210, 211, 212, 213, 214, 215, 216, 217] (by decide +kernel) (by decide +kernel)
set_option maxRecDepth 20000 in
theorem gX6_ifRun_X5_makeSteps : GoodIn wsX6_ifRun (wsV RX6 139 RX5 yX5_makeSteps wsX5_makeSteps) := goodIn_app (goodIn_of _ (by decide +kernel)) ggX6_ifRun_X5_makeSteps
set_option maxRecDepth 20000 in
theorem ggX6_ifRun_X5_tally : GoodIn wsX6_ifRun wsX5_tally := goodIn_r _ [177, 13, 145, 168, 14, 169, 17, 178, 179, 180, 30, 181, 32, 191, 192, 193, 194, 195, 196, 202, 203, 204, 205, 206, 207, 208, 209, 210, 211, 212, 213, 214, 215, 216, 217, 201] (by decide +kernel) (by decide +kernel)
set_option maxRecDepth 20000 in
theorem gX6_ifRun_X5_tally : GoodIn wsX6_ifRun (wsV RX6 232 RX5 yX5_tally wsX5_tally) := goodIn_app (goodIn_of _ (by decide +kernel)) ggX6_ifRun_X5_tally
theorem dX6_ifRun_0 : decode cX6_ifRun 0 = .ok (.iload_n 1, 1) := by decide +kernel
theorem dX6_ifRun_1 : decode cX6_ifRun 1 = .ok (.iconst 1, 1) := by decide +kernel
theorem dX6_ifRun_2 : decode cX6_ifRun 2 = .ok (.sipush 1000, 3) := by decide +kernel
theorem dX6_ifRun_5 : decode cX6_ifRun 5 = .ok (.invokestatic 49, 3) := by decide +kernel
theorem dX6_ifRun_8 : decode cX6_ifRun 8 = .ok (.ifCond .eq 12, 3) := by decide +kernel
theorem dX6_ifRun_11 : decode cX6_ifRun 11 = .ok (.iload_n 2, 1) := by decide +kernel
theorem dX6_ifRun_12 : decode cX6_ifRun 12 = .ok (.iconst 0, 1) := by decide +kernel
theorem dX6_ifRun_13 : decode cX6_ifRun 13 = .ok (.iconst 3, 1) := by decide +kernel
theorem dX6_ifRun_14 : decode cX6_ifRun 14 = .ok (.invokestatic 49, 3) := by decide +kernel
theorem dX6_ifRun_17 : decode cX6_ifRun 17 = .ok (.ifCond .ne 7, 3) := by decide +kernel
theorem dX6_ifRun_20 : decode cX6_ifRun 20 = .ok (.sipush (-1002), 3) := by decide +kernel
theorem dX6_ifRun_23 : decode cX6_ifRun 23 = .ok (.ireturn, 1) := by decide +kernel
theorem dX6_ifRun_24 : decode cX6_ifRun 24 = .ok (.aload_n 0, 1) := by decide +kernel
theorem dX6_ifRun_25 : decode cX6_ifRun 25 = .ok (.getfield 16, 3) := by decide +kernel
theorem dX6_ifRun_28 : decode cX6_ifRun 28 = .ok (.aload_n 0, 1) := by decide +kernel
theorem dX6_ifRun_29 : decode cX6_ifRun 29 = .ok (.getfield 10, 3) := by decide +kernel
theorem dX6_ifRun_32 : decode cX6_ifRun 32 = .ok (.invokevirtual 228, 3) := by decide +kernel
theorem dX6_ifRun_35 : decode cX6_ifRun 35 = .ok (.aload_n 0, 1) := by decide +kernel
theorem dX6_ifRun_36 : decode cX6_ifRun 36 = .ok (.getfield 16, 3) := by decide +kernel
theorem dX6_ifRun_39 : decode cX6_ifRun 39 = .ok (.iload_n 1, 1) := by decide +kernel
theorem dX6_ifRun_40 : decode cX6_ifRun 40 = .ok (.invokevirtual 139, 3) := by decide +kernel
theorem dX6_ifRun_43 : decode cX6_ifRun 43 = .ok (.aload_n 0, 1) := by decide +kernel
theorem dX6_ifRun_44 : decode cX6_ifRun 44 = .ok (.getfield 16, 3) := by decide +kernel
theorem dX6_ifRun_47 : decode cX6_ifRun 47 = .ok (.iload_n 2, 1) := by decide +kernel
theorem dX6_ifRun_48 : decode cX6_ifRun 48 = .ok (.invokevirtual 232, 3) := by decide +kernel
theorem dX6_ifRun_51 : decode cX6_ifRun 51 = .ok (.aload_n 0, 1) := by decide +kernel
theorem dX6_ifRun_52 : decode cX6_ifRun 52 = .ok (.getfield 10, 3) := by decide +kernel
theorem dX6_ifRun_55 : decode cX6_ifRun 55 = .ok (.iload_n 2, 1) := by decide +kernel
theorem dX6_ifRun_56 : decode cX6_ifRun 56 = .ok (.invokevirtual 232, 3) := by decide +kernel
theorem dX6_ifRun_59 : decode cX6_ifRun 59 = .ok (.isub, 1) := by decide +kernel
theorem dX6_ifRun_60 : decode cX6_ifRun 60 = .ok (.ireturn, 1) := by decide +kernel
set_option maxRecDepth 20000 in
theorem ggX6_leastSlack_X6_isGate : GoodIn wsX6_leastSlack wsX6_isGate := goodIn_r _ [9, 10, 11, 8, 12] (by decide +kernel) (by decide +kernel)
set_option maxRecDepth 20000 in
theorem gX6_leastSlack_X6_isGate : GoodIn wsX6_leastSlack (va_wsS RX6 85 yX6_isGate wsX6_isGate) := goodIn_app (goodIn_of _ (by decide +kernel)) ggX6_leastSlack_X6_isGate
set_option maxRecDepth 20000 in
theorem ggX6_leastSlack_X6_isWithin : GoodIn wsX6_leastSlack wsX6_isWithin := goodIn_r _ [12] (by decide +kernel) (by decide +kernel)
set_option maxRecDepth 20000 in
theorem gX6_leastSlack_X6_isWithin : GoodIn wsX6_leastSlack (va_wsS RX6 49 yX6_isWithin wsX6_isWithin) := goodIn_app (goodIn_of _ (by decide +kernel)) ggX6_leastSlack_X6_isWithin
set_option maxRecDepth 20000 in
theorem ggX6_leastSlack_X6_findGapsAhead : GoodIn wsX6_leastSlack wsX6_findGapsAhead := goodIn_r _ [16, 17, 1, 18, 19, 20, 21, 22, 23, 24, 25, 26, 27, 28, 29, 30, 31, 32, 33, 34, 35, 36, 37, 38, 39, 40, 41, 42, 43, 44, 45, 46, 47, 48, 49, 50, 200, 201, 202, 203, 204, 205, 206, 207, 208, 209, 210, 211, 212, 213, 214, 231, 232, 233, 234, 235] (by decide +kernel) (by decide +kernel)
set_option maxRecDepth 20000 in
theorem gX6_leastSlack_X6_findGapsAhead : GoodIn wsX6_leastSlack (wsV RX6 235 RX6 yX6_findGapsAhead wsX6_findGapsAhead) := goodIn_app (goodIn_of _ (by decide +kernel)) ggX6_leastSlack_X6_findGapsAhead
set_option maxRecDepth 20000 in
theorem ggX6_leastSlack_X0_sum : GoodIn wsX6_leastSlack wsX0_sum := goodIn_r _ [54, 46, 235] (by decide +kernel) (by decide +kernel)
set_option maxRecDepth 20000 in
theorem gX6_leastSlack_X0_sum : GoodIn wsX6_leastSlack (wsV RX6 110 RX0 yX0_sum wsX0_sum) := goodIn_app (goodIn_of _ (by decide +kernel)) ggX6_leastSlack_X0_sum
set_option maxRecDepth 20000 in
theorem ggX6_leastSlack_X6_wordsPassingWith : GoodIn wsX6_leastSlack wsX6_wordsPassingWith := goodIn_r _ [58, 59, 1, 4, 60, 17, 5, 61, 62, 63, 64, 65, 66, 67, 68, 69, 70, 71, 72, 73, 74, 23, 75, 35, 36, 34, 29, 76, 77, 78, 44, 79, 46, 80, 38, 39, 40, 81, 82, 83, 84, 85, 86, 87, 88, 89, 90, 91, 92, 93, 94, 95, 96, 97, 98, 99, 100, 101, 102, 103, 104, 105, 106, 107, 108, 109, 110, 111, 112, 47, 48, 49, 50, 113, 42, 43, 45, 114, 115, 116, 117, 118, 119, 120, 121, 122, 123, 124, 125, 126, 127, 128, 129, 130, 131, 132, 133, 134, 135, 136, 137, 138, 139, 140, 141, 142, 143, 144, 145, 146, 147, 148, 149, 150, 151, 152, 153, 154, 155, 156, 157, 158, 159, 160, 161, 162, 163, 164, 165, 166, 167, 168, 169, 170, 171, 172, 173, 174, 175, 176, 177, 178, 179, 180, 181, 182, 183, 184, 185, 186, 187, 188, 189, 190, 191, 192, 193, 194, 51, 52, 53, 54, 200, 201, 202, 203, 204, 205, 206, 207, 208, 209, 210, 211, 212, 213, 214, 223, 224, 225, 226, 227, 228, 229, 230, 231, 232, 233, 234, 235, 215, 216, 217, 218, 219, 220, 221, 222] (by decide +kernel) (by decide +kernel)
set_option maxRecDepth 20000 in
theorem gX6_leastSlack_X6_wordsPassingWith : GoodIn wsX6_leastSlack (wsV RX6 238 RX6 yX6_wordsPassingWith wsX6_wordsPassingWith) := goodIn_app (goodIn_of _ (by decide +kernel)) ggX6_leastSlack_X6_wordsPassingWith
set_option maxRecDepth 20000 in
theorem ggX6_leastSlack_X6_hasGapAhead : GoodIn wsX6_leastSlack wsX6_hasGapAhead := goodIn_r _ [198, 17, 199, 123, 39, 124, 113, 42, 43, 44, 45, 46, 200, 201, 202, 203, 204, 205, 206, 207, 208, 235] (by decide +kernel) (by decide +kernel)
set_option maxRecDepth 20000 in
theorem gX6_leastSlack_X6_hasGapAhead : GoodIn wsX6_leastSlack (wsV RX6 241 RX6 yX6_hasGapAhead wsX6_hasGapAhead) := goodIn_app (goodIn_of _ (by decide +kernel)) ggX6_leastSlack_X6_hasGapAhead
theorem dX6_leastSlack_0 : decode cX6_leastSlack 0 = .ok (.iload_n 1, 1) := by decide +kernel
theorem dX6_leastSlack_1 : decode cX6_leastSlack 1 = .ok (.invokestatic 85, 3) := by decide +kernel
theorem dX6_leastSlack_4 : decode cX6_leastSlack 4 = .ok (.ifCond .ne 7, 3) := by decide +kernel
theorem dX6_leastSlack_7 : decode cX6_leastSlack 7 = .ok (.sipush (-1001), 3) := by decide +kernel
theorem dX6_leastSlack_10 : decode cX6_leastSlack 10 = .ok (.ireturn, 1) := by decide +kernel
theorem dX6_leastSlack_11 : decode cX6_leastSlack 11 = .ok (.iload_n 2, 1) := by decide +kernel
theorem dX6_leastSlack_12 : decode cX6_leastSlack 12 = .ok (.iconst 0, 1) := by decide +kernel
theorem dX6_leastSlack_13 : decode cX6_leastSlack 13 = .ok (.iconst 1, 1) := by decide +kernel
theorem dX6_leastSlack_14 : decode cX6_leastSlack 14 = .ok (.invokestatic 49, 3) := by decide +kernel
theorem dX6_leastSlack_17 : decode cX6_leastSlack 17 = .ok (.ifCond .ne 7, 3) := by decide +kernel
theorem dX6_leastSlack_20 : decode cX6_leastSlack 20 = .ok (.sipush (-1002), 3) := by decide +kernel
theorem dX6_leastSlack_23 : decode cX6_leastSlack 23 = .ok (.ireturn, 1) := by decide +kernel
theorem dX6_leastSlack_24 : decode cX6_leastSlack 24 = .ok (.aload_n 0, 1) := by decide +kernel
theorem dX6_leastSlack_25 : decode cX6_leastSlack 25 = .ok (.invokevirtual 235, 3) := by decide +kernel
theorem dX6_leastSlack_28 : decode cX6_leastSlack 28 = .ok (.aload_n 0, 1) := by decide +kernel
theorem dX6_leastSlack_29 : decode cX6_leastSlack 29 = .ok (.getfield 10, 3) := by decide +kernel
theorem dX6_leastSlack_32 : decode cX6_leastSlack 32 = .ok (.getfield 117, 3) := by decide +kernel
theorem dX6_leastSlack_35 : decode cX6_leastSlack 35 = .ok (.getfield 121, 3) := by decide +kernel
theorem dX6_leastSlack_38 : decode cX6_leastSlack 38 = .ok (.aload_n 0, 1) := by decide +kernel
theorem dX6_leastSlack_39 : decode cX6_leastSlack 39 = .ok (.getfield 10, 3) := by decide +kernel
theorem dX6_leastSlack_42 : decode cX6_leastSlack 42 = .ok (.getfield 88, 3) := by decide +kernel
theorem dX6_leastSlack_45 : decode cX6_leastSlack 45 = .ok (.getfield 136, 3) := by decide +kernel
theorem dX6_leastSlack_48 : decode cX6_leastSlack 48 = .ok (.invokevirtual 110, 3) := by decide +kernel
theorem dX6_leastSlack_51 : decode cX6_leastSlack 51 = .ok (.isub, 1) := by decide +kernel
theorem dX6_leastSlack_52 : decode cX6_leastSlack 52 = .ok (.istore_n 3, 1) := by decide +kernel
theorem dX6_leastSlack_53 : decode cX6_leastSlack 53 = .ok (.iconst 0, 1) := by decide +kernel
theorem dX6_leastSlack_54 : decode cX6_leastSlack 54 = .ok (.istore 4, 2) := by decide +kernel
theorem dX6_leastSlack_56 : decode cX6_leastSlack 56 = .ok (.aload_n 0, 1) := by decide +kernel
theorem dX6_leastSlack_57 : decode cX6_leastSlack 57 = .ok (.iload_n 1, 1) := by decide +kernel
theorem dX6_leastSlack_58 : decode cX6_leastSlack 58 = .ok (.iconst 0, 1) := by decide +kernel
theorem dX6_leastSlack_59 : decode cX6_leastSlack 59 = .ok (.invokevirtual 238, 3) := by decide +kernel
theorem dX6_leastSlack_62 : decode cX6_leastSlack 62 = .ok (.istore 5, 2) := by decide +kernel
theorem dX6_leastSlack_64 : decode cX6_leastSlack 64 = .ok (.iconst 1, 1) := by decide +kernel
theorem dX6_leastSlack_65 : decode cX6_leastSlack 65 = .ok (.istore 6, 2) := by decide +kernel
theorem dX6_leastSlack_67 : decode cX6_leastSlack 67 = .ok (.iload 6, 2) := by decide +kernel
theorem dX6_leastSlack_69 : decode cX6_leastSlack 69 = .ok (.bipush 99, 2) := by decide +kernel
theorem dX6_leastSlack_71 : decode cX6_leastSlack 71 = .ok (.if_icmp .gt 53, 3) := by decide +kernel
theorem dX6_leastSlack_74 : decode cX6_leastSlack 74 = .ok (.iload 5, 2) := by decide +kernel
theorem dX6_leastSlack_76 : decode cX6_leastSlack 76 = .ok (.iload_n 3, 1) := by decide +kernel
theorem dX6_leastSlack_77 : decode cX6_leastSlack 77 = .ok (.if_icmp .ge 47, 3) := by decide +kernel
theorem dX6_leastSlack_80 : decode cX6_leastSlack 80 = .ok (.aload_n 0, 1) := by decide +kernel
theorem dX6_leastSlack_81 : decode cX6_leastSlack 81 = .ok (.iload 6, 2) := by decide +kernel
theorem dX6_leastSlack_83 : decode cX6_leastSlack 83 = .ok (.invokevirtual 241, 3) := by decide +kernel
theorem dX6_leastSlack_86 : decode cX6_leastSlack 86 = .ok (.ifCond .eq 13, 3) := by decide +kernel
theorem dX6_leastSlack_89 : decode cX6_leastSlack 89 = .ok (.aload_n 0, 1) := by decide +kernel
theorem dX6_leastSlack_90 : decode cX6_leastSlack 90 = .ok (.iload_n 1, 1) := by decide +kernel
theorem dX6_leastSlack_91 : decode cX6_leastSlack 91 = .ok (.iload 6, 2) := by decide +kernel
theorem dX6_leastSlack_93 : decode cX6_leastSlack 93 = .ok (.invokevirtual 238, 3) := by decide +kernel
theorem dX6_leastSlack_96 : decode cX6_leastSlack 96 = .ok (.goto 5, 3) := by decide +kernel
theorem dX6_leastSlack_99 : decode cX6_leastSlack 99 = .ok (.iload 5, 2) := by decide +kernel
theorem dX6_leastSlack_101 : decode cX6_leastSlack 101 = .ok (.istore 7, 2) := by decide +kernel
theorem dX6_leastSlack_103 : decode cX6_leastSlack 103 = .ok (.iload 7, 2) := by decide +kernel
theorem dX6_leastSlack_105 : decode cX6_leastSlack 105 = .ok (.iload 5, 2) := by decide +kernel
theorem dX6_leastSlack_107 : decode cX6_leastSlack 107 = .ok (.if_icmp .le 11, 3) := by decide +kernel
theorem dX6_leastSlack_110 : decode cX6_leastSlack 110 = .ok (.iload 6, 2) := by decide +kernel
theorem dX6_leastSlack_112 : decode cX6_leastSlack 112 = .ok (.istore 4, 2) := by decide +kernel
theorem dX6_leastSlack_114 : decode cX6_leastSlack 114 = .ok (.iload 7, 2) := by decide +kernel
theorem dX6_leastSlack_116 : decode cX6_leastSlack 116 = .ok (.istore 5, 2) := by decide +kernel
theorem dX6_leastSlack_118 : decode cX6_leastSlack 118 = .ok (.iinc 6 1, 3) := by decide +kernel
theorem dX6_leastSlack_121 : decode cX6_leastSlack 121 = .ok (.goto (-54), 3) := by decide +kernel
theorem dX6_leastSlack_124 : decode cX6_leastSlack 124 = .ok (.iload_n 2, 1) := by decide +kernel
theorem dX6_leastSlack_125 : decode cX6_leastSlack 125 = .ok (.ifCond .ne 8, 3) := by decide +kernel
theorem dX6_leastSlack_128 : decode cX6_leastSlack 128 = .ok (.iload 4, 2) := by decide +kernel
theorem dX6_leastSlack_130 : decode cX6_leastSlack 130 = .ok (.goto 5, 3) := by decide +kernel
theorem dX6_leastSlack_133 : decode cX6_leastSlack 133 = .ok (.iload 5, 2) := by decide +kernel
theorem dX6_leastSlack_135 : decode cX6_leastSlack 135 = .ok (.ireturn, 1) := by decide +kernel
set_option maxRecDepth 20000 in
theorem ggX6_bestLie_X6_isStore : GoodIn wsX6_bestLie wsX6_isStore := goodIn_r _ [4, 5, 6, 3, 7] (by decide +kernel) (by decide +kernel)
set_option maxRecDepth 20000 in
theorem gX6_bestLie_X6_isStore : GoodIn wsX6_bestLie (va_wsS RX6 45 yX6_isStore wsX6_isStore) := goodIn_app (goodIn_of _ (by decide +kernel)) ggX6_bestLie_X6_isStore
set_option maxRecDepth 20000 in
theorem ggX6_bestLie_X6_isGate : GoodIn wsX6_bestLie wsX6_isGate := goodIn_r _ [10, 5, 6, 3, 7] (by decide +kernel) (by decide +kernel)
set_option maxRecDepth 20000 in
theorem gX6_bestLie_X6_isGate : GoodIn wsX6_bestLie (va_wsS RX6 85 yX6_isGate wsX6_isGate) := goodIn_app (goodIn_of _ (by decide +kernel)) ggX6_bestLie_X6_isGate
set_option maxRecDepth 20000 in
theorem ggX6_bestLie_X6_findGapsAhead : GoodIn wsX6_bestLie wsX6_findGapsAhead := goodIn_r _ [14, 15, 16, 17, 18, 19, 20, 21, 22, 23, 24, 25, 26, 27, 28, 29, 30, 31, 32, 33, 34, 35, 36, 37, 38, 39, 40, 41, 42, 43, 44, 45, 46, 47, 48, 49, 61, 62, 63, 64, 65, 66, 67, 68, 69, 70, 71, 72, 73, 74, 75, 76, 77, 78, 79, 80] (by decide +kernel) (by decide +kernel)
set_option maxRecDepth 20000 in
theorem gX6_bestLie_X6_findGapsAhead : GoodIn wsX6_bestLie (wsV RX6 235 RX6 yX6_findGapsAhead wsX6_findGapsAhead) := goodIn_app (goodIn_of _ (by decide +kernel)) ggX6_bestLie_X6_findGapsAhead
set_option maxRecDepth 20000 in
theorem ggX6_bestLie_X6_openStepsWith : GoodIn wsX6_bestLie wsX6_openStepsWith := goodIn_r _ [53, 16, 17, 54, 55, 56, 15, 57, 58, 38, 59, 60, 41, 42, 43, 44, 45, 61, 62, 63, 64, 65, 66, 67, 68, 69, 70, 71, 72, 73, 74, 75, 76, 77, 78, 79, 81, 82, 83, 84, 85, 86, 87, 88, 80] (by decide +kernel) (by decide +kernel)
set_option maxRecDepth 20000 in
theorem gX6_bestLie_X6_openStepsWith : GoodIn wsX6_bestLie (wsV RX6 244 RX6 yX6_openStepsWith wsX6_openStepsWith) := goodIn_app (goodIn_of _ (by decide +kernel)) ggX6_bestLie_X6_openStepsWith
theorem dX6_bestLie_0 : decode cX6_bestLie 0 = .ok (.iload_n 1, 1) := by decide +kernel
theorem dX6_bestLie_1 : decode cX6_bestLie 1 = .ok (.invokestatic 45, 3) := by decide +kernel
theorem dX6_bestLie_4 : decode cX6_bestLie 4 = .ok (.ifCond .eq 10, 3) := by decide +kernel
theorem dX6_bestLie_7 : decode cX6_bestLie 7 = .ok (.iload_n 2, 1) := by decide +kernel
theorem dX6_bestLie_8 : decode cX6_bestLie 8 = .ok (.invokestatic 85, 3) := by decide +kernel
theorem dX6_bestLie_11 : decode cX6_bestLie 11 = .ok (.ifCond .ne 7, 3) := by decide +kernel
theorem dX6_bestLie_14 : decode cX6_bestLie 14 = .ok (.sipush (-1001), 3) := by decide +kernel
theorem dX6_bestLie_17 : decode cX6_bestLie 17 = .ok (.ireturn, 1) := by decide +kernel
theorem dX6_bestLie_18 : decode cX6_bestLie 18 = .ok (.aload_n 0, 1) := by decide +kernel
theorem dX6_bestLie_19 : decode cX6_bestLie 19 = .ok (.invokevirtual 235, 3) := by decide +kernel
theorem dX6_bestLie_22 : decode cX6_bestLie 22 = .ok (.iconst 0, 1) := by decide +kernel
theorem dX6_bestLie_23 : decode cX6_bestLie 23 = .ok (.istore_n 3, 1) := by decide +kernel
theorem dX6_bestLie_24 : decode cX6_bestLie 24 = .ok (.aload_n 0, 1) := by decide +kernel
theorem dX6_bestLie_25 : decode cX6_bestLie 25 = .ok (.iload_n 1, 1) := by decide +kernel
theorem dX6_bestLie_26 : decode cX6_bestLie 26 = .ok (.iload_n 2, 1) := by decide +kernel
theorem dX6_bestLie_27 : decode cX6_bestLie 27 = .ok (.iconst 0, 1) := by decide +kernel
theorem dX6_bestLie_28 : decode cX6_bestLie 28 = .ok (.invokevirtual 244, 3) := by decide +kernel
theorem dX6_bestLie_31 : decode cX6_bestLie 31 = .ok (.istore 4, 2) := by decide +kernel
theorem dX6_bestLie_33 : decode cX6_bestLie 33 = .ok (.iconst 1, 1) := by decide +kernel
theorem dX6_bestLie_34 : decode cX6_bestLie 34 = .ok (.istore 5, 2) := by decide +kernel
theorem dX6_bestLie_36 : decode cX6_bestLie 36 = .ok (.iload 5, 2) := by decide +kernel
theorem dX6_bestLie_38 : decode cX6_bestLie 38 = .ok (.bipush 100, 2) := by decide +kernel
theorem dX6_bestLie_40 : decode cX6_bestLie 40 = .ok (.if_icmp .gt 57, 3) := by decide +kernel
theorem dX6_bestLie_43 : decode cX6_bestLie 43 = .ok (.iload 5, 2) := by decide +kernel
theorem dX6_bestLie_45 : decode cX6_bestLie 45 = .ok (.iconst 1, 1) := by decide +kernel
theorem dX6_bestLie_46 : decode cX6_bestLie 46 = .ok (.iand, 1) := by decide +kernel
theorem dX6_bestLie_47 : decode cX6_bestLie 47 = .ok (.iconst 1, 1) := by decide +kernel
theorem dX6_bestLie_48 : decode cX6_bestLie 48 = .ok (.if_icmp .ne 13, 3) := by decide +kernel
theorem dX6_bestLie_51 : decode cX6_bestLie 51 = .ok (.iload 5, 2) := by decide +kernel
theorem dX6_bestLie_53 : decode cX6_bestLie 53 = .ok (.iconst 1, 1) := by decide +kernel
theorem dX6_bestLie_54 : decode cX6_bestLie 54 = .ok (.iadd, 1) := by decide +kernel
theorem dX6_bestLie_55 : decode cX6_bestLie 55 = .ok (.ineg, 1) := by decide +kernel
theorem dX6_bestLie_56 : decode cX6_bestLie 56 = .ok (.iconst 2, 1) := by decide +kernel
theorem dX6_bestLie_57 : decode cX6_bestLie 57 = .ok (.idiv, 1) := by decide +kernel
theorem dX6_bestLie_58 : decode cX6_bestLie 58 = .ok (.goto 7, 3) := by decide +kernel
theorem dX6_bestLie_61 : decode cX6_bestLie 61 = .ok (.iload 5, 2) := by decide +kernel
theorem dX6_bestLie_63 : decode cX6_bestLie 63 = .ok (.iconst 2, 1) := by decide +kernel
theorem dX6_bestLie_64 : decode cX6_bestLie 64 = .ok (.idiv, 1) := by decide +kernel
theorem dX6_bestLie_65 : decode cX6_bestLie 65 = .ok (.istore 6, 2) := by decide +kernel
theorem dX6_bestLie_67 : decode cX6_bestLie 67 = .ok (.aload_n 0, 1) := by decide +kernel
theorem dX6_bestLie_68 : decode cX6_bestLie 68 = .ok (.iload_n 1, 1) := by decide +kernel
theorem dX6_bestLie_69 : decode cX6_bestLie 69 = .ok (.iload_n 2, 1) := by decide +kernel
theorem dX6_bestLie_70 : decode cX6_bestLie 70 = .ok (.iload 6, 2) := by decide +kernel
theorem dX6_bestLie_72 : decode cX6_bestLie 72 = .ok (.invokevirtual 244, 3) := by decide +kernel
theorem dX6_bestLie_75 : decode cX6_bestLie 75 = .ok (.istore 7, 2) := by decide +kernel
theorem dX6_bestLie_77 : decode cX6_bestLie 77 = .ok (.iload 7, 2) := by decide +kernel
theorem dX6_bestLie_79 : decode cX6_bestLie 79 = .ok (.iload 4, 2) := by decide +kernel
theorem dX6_bestLie_81 : decode cX6_bestLie 81 = .ok (.if_icmp .le 10, 3) := by decide +kernel
theorem dX6_bestLie_84 : decode cX6_bestLie 84 = .ok (.iload 6, 2) := by decide +kernel
theorem dX6_bestLie_86 : decode cX6_bestLie 86 = .ok (.istore_n 3, 1) := by decide +kernel
theorem dX6_bestLie_87 : decode cX6_bestLie 87 = .ok (.iload 7, 2) := by decide +kernel
theorem dX6_bestLie_89 : decode cX6_bestLie 89 = .ok (.istore 4, 2) := by decide +kernel
theorem dX6_bestLie_91 : decode cX6_bestLie 91 = .ok (.iinc 5 1, 3) := by decide +kernel
theorem dX6_bestLie_94 : decode cX6_bestLie 94 = .ok (.goto (-58), 3) := by decide +kernel
theorem dX6_bestLie_97 : decode cX6_bestLie 97 = .ok (.iload_n 3, 1) := by decide +kernel
theorem dX6_bestLie_98 : decode cX6_bestLie 98 = .ok (.ireturn, 1) := by decide +kernel
set_option maxRecDepth 20000 in
theorem ggX6_write_X6_codesIn : GoodIn wsX6_write wsX6_codesIn := goodIn_r _ [6, 7, 8, 9, 5, 10] (by decide +kernel) (by decide +kernel)
set_option maxRecDepth 20000 in
theorem gX6_write_X6_codesIn : GoodIn wsX6_write (va_wsS RX6 248 yX6_codesIn wsX6_codesIn) := goodIn_app (goodIn_of _ (by decide +kernel)) ggX6_write_X6_codesIn
set_option maxRecDepth 20000 in
theorem ggX6_write_X6_codeAt : GoodIn wsX6_write wsX6_codeAt := goodIn_r _ [13] (by decide +kernel) (by decide +kernel)
set_option maxRecDepth 20000 in
theorem gX6_write_X6_codeAt : GoodIn wsX6_write (va_wsS RX6 252 yX6_codeAt wsX6_codeAt) := goodIn_app (goodIn_of _ (by decide +kernel)) ggX6_write_X6_codeAt
set_option maxRecDepth 20000 in
theorem ggX6_write_X2_append : GoodIn wsX6_write wsX2_append := goodIn_r _ [18, 19, 20, 21, 22, 23, 24, 25, 26, 36, 37, 38] (by decide +kernel) (by decide +kernel)
set_option maxRecDepth 20000 in
theorem gX6_write_X2_append : GoodIn wsX6_write (wsV RX6 256 RX2 yX2_append wsX2_append) := goodIn_app (goodIn_of _ (by decide +kernel)) ggX6_write_X2_append
theorem dX6_write_0 : decode cX6_write 0 = .ok (.lload_n 1, 1) := by decide +kernel
theorem dX6_write_1 : decode cX6_write 1 = .ok (.invokestatic 248, 3) := by decide +kernel
theorem dX6_write_4 : decode cX6_write 4 = .ok (.istore_n 3, 1) := by decide +kernel
theorem dX6_write_5 : decode cX6_write 5 = .ok (.iload_n 3, 1) := by decide +kernel
theorem dX6_write_6 : decode cX6_write 6 = .ok (.sipush (-1002), 3) := by decide +kernel
theorem dX6_write_9 : decode cX6_write 9 = .ok (.if_icmp .ne 7, 3) := by decide +kernel
theorem dX6_write_12 : decode cX6_write 12 = .ok (.sipush (-1002), 3) := by decide +kernel
theorem dX6_write_15 : decode cX6_write 15 = .ok (.ireturn, 1) := by decide +kernel
theorem dX6_write_16 : decode cX6_write 16 = .ok (.aload_n 0, 1) := by decide +kernel
theorem dX6_write_17 : decode cX6_write 17 = .ok (.getfield 22, 3) := by decide +kernel
theorem dX6_write_20 : decode cX6_write 20 = .ok (.getfield 132, 3) := by decide +kernel
theorem dX6_write_23 : decode cX6_write 23 = .ok (.iload_n 3, 1) := by decide +kernel
theorem dX6_write_24 : decode cX6_write 24 = .ok (.iadd, 1) := by decide +kernel
theorem dX6_write_25 : decode cX6_write 25 = .ok (.bipush 60, 2) := by decide +kernel
theorem dX6_write_27 : decode cX6_write 27 = .ok (.if_icmp .le 7, 3) := by decide +kernel
theorem dX6_write_30 : decode cX6_write 30 = .ok (.sipush (-1004), 3) := by decide +kernel
theorem dX6_write_33 : decode cX6_write 33 = .ok (.ireturn, 1) := by decide +kernel
theorem dX6_write_34 : decode cX6_write 34 = .ok (.iload_n 3, 1) := by decide +kernel
theorem dX6_write_35 : decode cX6_write 35 = .ok (.iconst 1, 1) := by decide +kernel
theorem dX6_write_36 : decode cX6_write 36 = .ok (.isub, 1) := by decide +kernel
theorem dX6_write_37 : decode cX6_write 37 = .ok (.istore 4, 2) := by decide +kernel
theorem dX6_write_39 : decode cX6_write 39 = .ok (.iload 4, 2) := by decide +kernel
theorem dX6_write_41 : decode cX6_write 41 = .ok (.ifCond .lt 22, 3) := by decide +kernel
theorem dX6_write_44 : decode cX6_write 44 = .ok (.aload_n 0, 1) := by decide +kernel
theorem dX6_write_45 : decode cX6_write 45 = .ok (.getfield 22, 3) := by decide +kernel
theorem dX6_write_48 : decode cX6_write 48 = .ok (.lload_n 1, 1) := by decide +kernel
theorem dX6_write_49 : decode cX6_write 49 = .ok (.iload 4, 2) := by decide +kernel
theorem dX6_write_51 : decode cX6_write 51 = .ok (.invokestatic 252, 3) := by decide +kernel
theorem dX6_write_54 : decode cX6_write 54 = .ok (.invokevirtual 256, 3) := by decide +kernel
theorem dX6_write_57 : decode cX6_write 57 = .ok (.iinc 4 (-1), 3) := by decide +kernel
theorem dX6_write_60 : decode cX6_write 60 = .ok (.goto (-21), 3) := by decide +kernel
theorem dX6_write_63 : decode cX6_write 63 = .ok (.aload_n 0, 1) := by decide +kernel
theorem dX6_write_64 : decode cX6_write 64 = .ok (.getfield 22, 3) := by decide +kernel
theorem dX6_write_67 : decode cX6_write 67 = .ok (.getfield 132, 3) := by decide +kernel
theorem dX6_write_70 : decode cX6_write 70 = .ok (.ireturn, 1) := by decide +kernel
theorem dX6_wipe_0 : decode cX6_wipe 0 = .ok (.aload_n 0, 1) := by decide +kernel
theorem dX6_wipe_1 : decode cX6_wipe 1 = .ok (.getfield 22, 3) := by decide +kernel
theorem dX6_wipe_4 : decode cX6_wipe 4 = .ok (.getfield 132, 3) := by decide +kernel
theorem dX6_wipe_7 : decode cX6_wipe 7 = .ok (.istore_n 1, 1) := by decide +kernel
theorem dX6_wipe_8 : decode cX6_wipe 8 = .ok (.aload_n 0, 1) := by decide +kernel
theorem dX6_wipe_9 : decode cX6_wipe 9 = .ok (.getfield 22, 3) := by decide +kernel
theorem dX6_wipe_12 : decode cX6_wipe 12 = .ok (.iconst 0, 1) := by decide +kernel
theorem dX6_wipe_13 : decode cX6_wipe 13 = .ok (.putfield 132, 3) := by decide +kernel
theorem dX6_wipe_16 : decode cX6_wipe 16 = .ok (.iload_n 1, 1) := by decide +kernel
theorem dX6_wipe_17 : decode cX6_wipe 17 = .ok (.ireturn, 1) := by decide +kernel
set_option maxRecDepth 20000 in
theorem ggX6_fault_X2_faultPlace : GoodIn wsX6_fault wsX2_faultPlace := goodIn_r _ [6, 7, 8, 9, 10, 11, 12, 13, 14, 24, 25, 26] (by decide +kernel) (by decide +kernel)
set_option maxRecDepth 20000 in
theorem gX6_fault_X2_faultPlace : GoodIn wsX6_fault (wsV RX6 114 RX2 yX2_faultPlace wsX2_faultPlace) := goodIn_app (goodIn_of _ (by decide +kernel)) ggX6_fault_X2_faultPlace
theorem dX6_fault_0 : decode cX6_fault 0 = .ok (.aload_n 0, 1) := by decide +kernel
theorem dX6_fault_1 : decode cX6_fault 1 = .ok (.getfield 22, 3) := by decide +kernel
theorem dX6_fault_4 : decode cX6_fault 4 = .ok (.invokevirtual 114, 3) := by decide +kernel
theorem dX6_fault_7 : decode cX6_fault 7 = .ok (.ireturn, 1) := by decide +kernel
set_option maxRecDepth 20000 in
theorem ggX6_undo_X6_worldIn : GoodIn wsX6_undo wsX6_worldIn := goodIn_r _ [8] (by decide +kernel) (by decide +kernel)
set_option maxRecDepth 20000 in
theorem gX6_undo_X6_worldIn : GoodIn wsX6_undo (va_wsS RX6 262 yX6_worldIn wsX6_worldIn) := goodIn_app (goodIn_of _ (by decide +kernel)) ggX6_undo_X6_worldIn
set_option maxRecDepth 20000 in
theorem ggX6_undo_X5_copyFrom : GoodIn wsX6_undo wsX5_copyFrom := goodIn_r _ [13, 14, 15, 16, 17, 18, 19, 20, 21, 22, 23, 24, 25, 26, 27, 28, 29, 30, 31, 32, 33, 34, 35, 36, 37, 38, 39, 40, 41, 42, 43, 44, 45, 46, 47, 48, 49, 50, 51, 52, 53, 54, 55, 56, 57, 58, 59, 60, 61, 62, 63, 64, 65, 66, 67, 68, 69, 70, 80, 81, 82, 83, 84, 85, 86, 87, 88, 89, 90, 91, 92, 93, 94, 95, 96, 97, 98, 99, 100, 101, 102, 103, 104, 105, 106] (by decide +kernel) (by decide +kernel)
set_option maxRecDepth 20000 in
theorem gX6_undo_X5_copyFrom : GoodIn wsX6_undo (wsV RX6 228 RX5 yX5_copyFrom wsX5_copyFrom) := goodIn_app (goodIn_of _ (by decide +kernel)) ggX6_undo_X5_copyFrom
theorem dX6_undo_0 : decode cX6_undo 0 = .ok (.aload_n 0, 1) := by decide +kernel
theorem dX6_undo_1 : decode cX6_undo 1 = .ok (.getfield 219, 3) := by decide +kernel
theorem dX6_undo_4 : decode cX6_undo 4 = .ok (.ifCond .ne 7, 3) := by decide +kernel
theorem dX6_undo_7 : decode cX6_undo 7 = .ok (.sipush (-1005), 3) := by decide +kernel
theorem dX6_undo_10 : decode cX6_undo 10 = .ok (.ireturn, 1) := by decide +kernel
theorem dX6_undo_11 : decode cX6_undo 11 = .ok (.aload_n 0, 1) := by decide +kernel
theorem dX6_undo_12 : decode cX6_undo 12 = .ok (.aload_n 0, 1) := by decide +kernel
theorem dX6_undo_13 : decode cX6_undo 13 = .ok (.getfield 259, 3) := by decide +kernel
theorem dX6_undo_16 : decode cX6_undo 16 = .ok (.ifCond .ne 7, 3) := by decide +kernel
theorem dX6_undo_19 : decode cX6_undo 19 = .ok (.iconst 5, 1) := by decide +kernel
theorem dX6_undo_20 : decode cX6_undo 20 = .ok (.goto 9, 3) := by decide +kernel
theorem dX6_undo_23 : decode cX6_undo 23 = .ok (.aload_n 0, 1) := by decide +kernel
theorem dX6_undo_24 : decode cX6_undo 24 = .ok (.getfield 259, 3) := by decide +kernel
theorem dX6_undo_27 : decode cX6_undo 27 = .ok (.iconst 1, 1) := by decide +kernel
theorem dX6_undo_28 : decode cX6_undo 28 = .ok (.isub, 1) := by decide +kernel
theorem dX6_undo_29 : decode cX6_undo 29 = .ok (.putfield 259, 3) := by decide +kernel
theorem dX6_undo_32 : decode cX6_undo 32 = .ok (.aload_n 0, 1) := by decide +kernel
theorem dX6_undo_33 : decode cX6_undo 33 = .ok (.dup, 1) := by decide +kernel
theorem dX6_undo_34 : decode cX6_undo 34 = .ok (.getfield 219, 3) := by decide +kernel
theorem dX6_undo_37 : decode cX6_undo 37 = .ok (.iconst 1, 1) := by decide +kernel
theorem dX6_undo_38 : decode cX6_undo 38 = .ok (.isub, 1) := by decide +kernel
theorem dX6_undo_39 : decode cX6_undo 39 = .ok (.putfield 219, 3) := by decide +kernel
theorem dX6_undo_42 : decode cX6_undo 42 = .ok (.aload_n 0, 1) := by decide +kernel
theorem dX6_undo_43 : decode cX6_undo 43 = .ok (.getfield 10, 3) := by decide +kernel
theorem dX6_undo_46 : decode cX6_undo 46 = .ok (.aload_n 0, 1) := by decide +kernel
theorem dX6_undo_47 : decode cX6_undo 47 = .ok (.getfield 26, 3) := by decide +kernel
theorem dX6_undo_50 : decode cX6_undo 50 = .ok (.aload_n 0, 1) := by decide +kernel
theorem dX6_undo_51 : decode cX6_undo 51 = .ok (.getfield 259, 3) := by decide +kernel
theorem dX6_undo_54 : decode cX6_undo 54 = .ok (.invokestatic 262, 3) := by decide +kernel
theorem dX6_undo_57 : decode cX6_undo 57 = .ok (.invokevirtual 228, 3) := by decide +kernel
theorem dX6_undo_60 : decode cX6_undo 60 = .ok (.aload_n 0, 1) := by decide +kernel
theorem dX6_undo_61 : decode cX6_undo 61 = .ok (.getfield 219, 3) := by decide +kernel
theorem dX6_undo_64 : decode cX6_undo 64 = .ok (.ireturn, 1) := by decide +kernel
set_option maxRecDepth 20000 in
theorem ggX6_save_X6_isWithin : GoodIn wsX6_save wsX6_isWithin := goodIn_r _ [8] (by decide +kernel) (by decide +kernel)
set_option maxRecDepth 20000 in
theorem gX6_save_X6_isWithin : GoodIn wsX6_save (va_wsS RX6 49 yX6_isWithin wsX6_isWithin) := goodIn_app (goodIn_of _ (by decide +kernel)) ggX6_save_X6_isWithin
set_option maxRecDepth 20000 in
theorem ggX6_save_X6_copyInto : GoodIn wsX6_save wsX6_copyInto := goodIn_r _ [12, 3, 13, 14, 7, 15, 16, 17, 18, 19, 20, 21, 22, 23, 24, 25, 26, 27, 28, 29, 30, 31, 32, 33, 34, 35, 36, 37, 38, 39, 40, 41, 42, 43, 44, 45, 46, 47, 48, 49, 50, 51, 52, 53, 54, 55, 56, 57, 58, 59, 60, 61, 62, 63, 64, 65, 66, 67, 68, 69, 70, 71, 72, 73, 74, 75, 76, 77, 82, 83, 84, 85, 86, 87, 88, 89, 90, 91, 92, 93, 94, 95, 96, 97, 98, 99, 100, 101, 102, 103, 104, 105, 106, 107, 108, 109, 110, 111, 112, 113, 114, 115, 116, 117] (by decide +kernel) (by decide +kernel)
set_option maxRecDepth 20000 in
theorem gX6_save_X6_copyInto : GoodIn wsX6_save (wsV RX6 266 RX6 yX6_copyInto wsX6_copyInto) := goodIn_app (goodIn_of _ (by decide +kernel)) ggX6_save_X6_copyInto
set_option maxRecDepth 20000 in
theorem ggX6_save_X0_set : GoodIn wsX6_save wsX0_set := goodIn_r _ [81, 41, 101] (by decide +kernel) (by decide +kernel)
set_option maxRecDepth 20000 in
theorem gX6_save_X0_set : GoodIn wsX6_save (wsV RX6 81 RX0 yX0_set wsX0_set) := goodIn_app (goodIn_of _ (by decide +kernel)) ggX6_save_X0_set
theorem dX6_save_0 : decode cX6_save 0 = .ok (.iload_n 1, 1) := by decide +kernel
theorem dX6_save_1 : decode cX6_save 1 = .ok (.iconst 0, 1) := by decide +kernel
theorem dX6_save_2 : decode cX6_save 2 = .ok (.iconst 1, 1) := by decide +kernel
theorem dX6_save_3 : decode cX6_save 3 = .ok (.invokestatic 49, 3) := by decide +kernel
theorem dX6_save_6 : decode cX6_save 6 = .ok (.ifCond .ne 7, 3) := by decide +kernel
theorem dX6_save_9 : decode cX6_save 9 = .ok (.sipush (-1002), 3) := by decide +kernel
theorem dX6_save_12 : decode cX6_save 12 = .ok (.ireturn, 1) := by decide +kernel
theorem dX6_save_13 : decode cX6_save 13 = .ok (.aload_n 0, 1) := by decide +kernel
theorem dX6_save_14 : decode cX6_save 14 = .ok (.aload_n 0, 1) := by decide +kernel
theorem dX6_save_15 : decode cX6_save 15 = .ok (.getfield 30, 3) := by decide +kernel
theorem dX6_save_18 : decode cX6_save 18 = .ok (.iload_n 1, 1) := by decide +kernel
theorem dX6_save_19 : decode cX6_save 19 = .ok (.invokevirtual 266, 3) := by decide +kernel
theorem dX6_save_22 : decode cX6_save 22 = .ok (.aload_n 0, 1) := by decide +kernel
theorem dX6_save_23 : decode cX6_save 23 = .ok (.getfield 38, 3) := by decide +kernel
theorem dX6_save_26 : decode cX6_save 26 = .ok (.iload_n 1, 1) := by decide +kernel
theorem dX6_save_27 : decode cX6_save 27 = .ok (.iconst 1, 1) := by decide +kernel
theorem dX6_save_28 : decode cX6_save 28 = .ok (.invokevirtual 81, 3) := by decide +kernel
theorem dX6_save_31 : decode cX6_save 31 = .ok (.aload_n 0, 1) := by decide +kernel
theorem dX6_save_32 : decode cX6_save 32 = .ok (.getfield 10, 3) := by decide +kernel
theorem dX6_save_35 : decode cX6_save 35 = .ok (.getfield 66, 3) := by decide +kernel
theorem dX6_save_38 : decode cX6_save 38 = .ok (.ireturn, 1) := by decide +kernel
set_option maxRecDepth 20000 in
theorem ggX6_restore_X6_isWithin : GoodIn wsX6_restore wsX6_isWithin := goodIn_r _ [8] (by decide +kernel) (by decide +kernel)
set_option maxRecDepth 20000 in
theorem gX6_restore_X6_isWithin : GoodIn wsX6_restore (va_wsS RX6 49 yX6_isWithin wsX6_isWithin) := goodIn_app (goodIn_of _ (by decide +kernel)) ggX6_restore_X6_isWithin
set_option maxRecDepth 20000 in
theorem ggX6_restore_X0_get : GoodIn wsX6_restore wsX0_get := goodIn_r _ [13, 14, 105] (by decide +kernel) (by decide +kernel)
set_option maxRecDepth 20000 in
theorem gX6_restore_X0_get : GoodIn wsX6_restore (wsV RX6 77 RX0 yX0_get wsX0_get) := goodIn_app (goodIn_of _ (by decide +kernel)) ggX6_restore_X0_get
set_option maxRecDepth 20000 in
theorem ggX6_restore_X6_record : GoodIn wsX6_restore wsX6_record := goodIn_r _ [18, 19, 20, 21, 22, 23, 24, 25, 26, 27, 28, 7, 29, 2, 30, 31, 32, 33, 34, 35, 36, 37, 38, 39, 40, 41, 42, 43, 44, 45, 46, 47, 48, 49, 50, 51, 52, 53, 54, 55, 12, 56, 14, 57, 58, 59, 60, 61, 62, 63, 64, 65, 66, 67, 68, 69, 70, 71, 72, 73, 74, 75, 76, 77, 78, 79, 80, 81, 82, 83, 84, 85, 86, 87, 88, 89, 90, 91, 92, 93, 94, 95, 96, 97, 98, 99, 100, 101, 102, 103, 104, 106, 107, 108, 109, 105, 110, 111, 112, 113, 114, 115, 116, 117, 118, 119, 120, 121, 122, 123, 124, 125] (by decide +kernel) (by decide +kernel)
set_option maxRecDepth 20000 in
theorem gX6_restore_X6_record : GoodIn wsX6_restore (wsV RX6 53 RX6 yX6_record wsX6_record) := goodIn_app (goodIn_of _ (by decide +kernel)) ggX6_restore_X6_record
set_option maxRecDepth 20000 in
theorem ggX6_restore_X6_worldIn : GoodIn wsX6_restore wsX6_worldIn := goodIn_r _ [32] (by decide +kernel) (by decide +kernel)
set_option maxRecDepth 20000 in
theorem gX6_restore_X6_worldIn : GoodIn wsX6_restore (va_wsS RX6 262 yX6_worldIn wsX6_worldIn) := goodIn_app (goodIn_of _ (by decide +kernel)) ggX6_restore_X6_worldIn
set_option maxRecDepth 20000 in
theorem ggX6_restore_X5_copyFrom : GoodIn wsX6_restore wsX5_copyFrom := goodIn_r _ [37, 38, 39, 40, 41, 42, 43, 44, 45, 46, 47, 48, 49, 50, 51, 52, 53, 54, 55, 12, 56, 14, 57, 23, 24, 25, 58, 59, 60, 61, 62, 63, 64, 65, 66, 67, 68, 69, 70, 71, 72, 73, 74, 75, 76, 77, 78, 79, 80, 81, 82, 83, 84, 85, 86, 87, 88, 89, 99, 100, 101, 102, 103, 104, 106, 107, 108, 109, 105, 110, 111, 112, 113, 114, 115, 116, 117, 118, 119, 120, 121, 122, 123, 124, 125] (by decide +kernel) (by decide +kernel)
set_option maxRecDepth 20000 in
theorem gX6_restore_X5_copyFrom : GoodIn wsX6_restore (wsV RX6 228 RX5 yX5_copyFrom wsX5_copyFrom) := goodIn_app (goodIn_of _ (by decide +kernel)) ggX6_restore_X5_copyFrom
theorem dX6_restore_0 : decode cX6_restore 0 = .ok (.iload_n 1, 1) := by decide +kernel
theorem dX6_restore_1 : decode cX6_restore 1 = .ok (.iconst 0, 1) := by decide +kernel
theorem dX6_restore_2 : decode cX6_restore 2 = .ok (.iconst 1, 1) := by decide +kernel
theorem dX6_restore_3 : decode cX6_restore 3 = .ok (.invokestatic 49, 3) := by decide +kernel
theorem dX6_restore_6 : decode cX6_restore 6 = .ok (.ifCond .ne 7, 3) := by decide +kernel
theorem dX6_restore_9 : decode cX6_restore 9 = .ok (.sipush (-1002), 3) := by decide +kernel
theorem dX6_restore_12 : decode cX6_restore 12 = .ok (.ireturn, 1) := by decide +kernel
theorem dX6_restore_13 : decode cX6_restore 13 = .ok (.aload_n 0, 1) := by decide +kernel
theorem dX6_restore_14 : decode cX6_restore 14 = .ok (.getfield 38, 3) := by decide +kernel
theorem dX6_restore_17 : decode cX6_restore 17 = .ok (.iload_n 1, 1) := by decide +kernel
theorem dX6_restore_18 : decode cX6_restore 18 = .ok (.invokevirtual 77, 3) := by decide +kernel
theorem dX6_restore_21 : decode cX6_restore 21 = .ok (.ifCond .ne 7, 3) := by decide +kernel
theorem dX6_restore_24 : decode cX6_restore 24 = .ok (.sipush (-1005), 3) := by decide +kernel
theorem dX6_restore_27 : decode cX6_restore 27 = .ok (.ireturn, 1) := by decide +kernel
theorem dX6_restore_28 : decode cX6_restore 28 = .ok (.aload_n 0, 1) := by decide +kernel
theorem dX6_restore_29 : decode cX6_restore 29 = .ok (.invokevirtual 53, 3) := by decide +kernel
theorem dX6_restore_32 : decode cX6_restore 32 = .ok (.aload_n 0, 1) := by decide +kernel
theorem dX6_restore_33 : decode cX6_restore 33 = .ok (.getfield 10, 3) := by decide +kernel
theorem dX6_restore_36 : decode cX6_restore 36 = .ok (.aload_n 0, 1) := by decide +kernel
theorem dX6_restore_37 : decode cX6_restore 37 = .ok (.getfield 30, 3) := by decide +kernel
theorem dX6_restore_40 : decode cX6_restore 40 = .ok (.iload_n 1, 1) := by decide +kernel
theorem dX6_restore_41 : decode cX6_restore 41 = .ok (.invokestatic 262, 3) := by decide +kernel
theorem dX6_restore_44 : decode cX6_restore 44 = .ok (.invokevirtual 228, 3) := by decide +kernel
theorem dX6_restore_47 : decode cX6_restore 47 = .ok (.aload_n 0, 1) := by decide +kernel
theorem dX6_restore_48 : decode cX6_restore 48 = .ok (.getfield 10, 3) := by decide +kernel
theorem dX6_restore_51 : decode cX6_restore 51 = .ok (.getfield 66, 3) := by decide +kernel
theorem dX6_restore_54 : decode cX6_restore 54 = .ok (.ireturn, 1) := by decide +kernel
theorem dX6_isWithin_0 : decode cX6_isWithin 0 = .ok (.iload_n 0, 1) := by decide +kernel
theorem dX6_isWithin_1 : decode cX6_isWithin 1 = .ok (.iload_n 1, 1) := by decide +kernel
theorem dX6_isWithin_2 : decode cX6_isWithin 2 = .ok (.if_icmp .lt 12, 3) := by decide +kernel
theorem dX6_isWithin_5 : decode cX6_isWithin 5 = .ok (.iload_n 0, 1) := by decide +kernel
theorem dX6_isWithin_6 : decode cX6_isWithin 6 = .ok (.iload_n 2, 1) := by decide +kernel
theorem dX6_isWithin_7 : decode cX6_isWithin 7 = .ok (.if_icmp .gt 7, 3) := by decide +kernel
theorem dX6_isWithin_10 : decode cX6_isWithin 10 = .ok (.iconst 1, 1) := by decide +kernel
theorem dX6_isWithin_11 : decode cX6_isWithin 11 = .ok (.goto 4, 3) := by decide +kernel
theorem dX6_isWithin_14 : decode cX6_isWithin 14 = .ok (.iconst 0, 1) := by decide +kernel
theorem dX6_isWithin_15 : decode cX6_isWithin 15 = .ok (.ireturn, 1) := by decide +kernel
set_option maxRecDepth 20000 in
theorem ggX6_isStore_X6_isWithin : GoodIn wsX6_isStore wsX6_isWithin := goodIn_r _ [4] (by decide +kernel) (by decide +kernel)
set_option maxRecDepth 20000 in
theorem gX6_isStore_X6_isWithin : GoodIn wsX6_isStore (va_wsS RX6 49 yX6_isWithin wsX6_isWithin) := goodIn_app (goodIn_of _ (by decide +kernel)) ggX6_isStore_X6_isWithin
theorem dX6_isStore_0 : decode cX6_isStore 0 = .ok (.iload_n 0, 1) := by decide +kernel
theorem dX6_isStore_1 : decode cX6_isStore 1 = .ok (.iconst 0, 1) := by decide +kernel
theorem dX6_isStore_2 : decode cX6_isStore 2 = .ok (.iconst 1, 1) := by decide +kernel
theorem dX6_isStore_3 : decode cX6_isStore 3 = .ok (.invokestatic 49, 3) := by decide +kernel
theorem dX6_isStore_6 : decode cX6_isStore 6 = .ok (.ireturn, 1) := by decide +kernel
set_option maxRecDepth 20000 in
theorem ggX6_isGate_X6_isWithin : GoodIn wsX6_isGate wsX6_isWithin := goodIn_r _ [4] (by decide +kernel) (by decide +kernel)
set_option maxRecDepth 20000 in
theorem gX6_isGate_X6_isWithin : GoodIn wsX6_isGate (va_wsS RX6 49 yX6_isWithin wsX6_isWithin) := goodIn_app (goodIn_of _ (by decide +kernel)) ggX6_isGate_X6_isWithin
theorem dX6_isGate_0 : decode cX6_isGate 0 = .ok (.iload_n 0, 1) := by decide +kernel
theorem dX6_isGate_1 : decode cX6_isGate 1 = .ok (.iconst 0, 1) := by decide +kernel
theorem dX6_isGate_2 : decode cX6_isGate 2 = .ok (.iconst 3, 1) := by decide +kernel
theorem dX6_isGate_3 : decode cX6_isGate 3 = .ok (.invokestatic 49, 3) := by decide +kernel
theorem dX6_isGate_6 : decode cX6_isGate 6 = .ok (.ireturn, 1) := by decide +kernel
set_option maxRecDepth 20000 in
theorem ggX6_isWord_X6_isWithin : GoodIn wsX6_isWord wsX6_isWithin := goodIn_r _ [7] (by decide +kernel) (by decide +kernel)
set_option maxRecDepth 20000 in
theorem gX6_isWord_X6_isWithin : GoodIn wsX6_isWord (va_wsS RX6 49 yX6_isWithin wsX6_isWithin) := goodIn_app (goodIn_of _ (by decide +kernel)) ggX6_isWord_X6_isWithin
theorem dX6_isWord_0 : decode cX6_isWord 0 = .ok (.iload_n 1, 1) := by decide +kernel
theorem dX6_isWord_1 : decode cX6_isWord 1 = .ok (.iconst 0, 1) := by decide +kernel
theorem dX6_isWord_2 : decode cX6_isWord 2 = .ok (.aload_n 0, 1) := by decide +kernel
theorem dX6_isWord_3 : decode cX6_isWord 3 = .ok (.getfield 10, 3) := by decide +kernel
theorem dX6_isWord_6 : decode cX6_isWord 6 = .ok (.getfield 117, 3) := by decide +kernel
theorem dX6_isWord_9 : decode cX6_isWord 9 = .ok (.getfield 121, 3) := by decide +kernel
theorem dX6_isWord_12 : decode cX6_isWord 12 = .ok (.iconst 1, 1) := by decide +kernel
theorem dX6_isWord_13 : decode cX6_isWord 13 = .ok (.isub, 1) := by decide +kernel
theorem dX6_isWord_14 : decode cX6_isWord 14 = .ok (.invokestatic 49, 3) := by decide +kernel
theorem dX6_isWord_17 : decode cX6_isWord 17 = .ok (.ireturn, 1) := by decide +kernel
theorem dX6_worldIn_0 : decode cX6_worldIn 0 = .ok (.iload_n 1, 1) := by decide +kernel
theorem dX6_worldIn_1 : decode cX6_worldIn 1 = .ok (.ifCond .lt 15, 3) := by decide +kernel
theorem dX6_worldIn_4 : decode cX6_worldIn 4 = .ok (.iload_n 1, 1) := by decide +kernel
theorem dX6_worldIn_5 : decode cX6_worldIn 5 = .ok (.aload_n 0, 1) := by decide +kernel
theorem dX6_worldIn_6 : decode cX6_worldIn 6 = .ok (.arraylength, 1) := by decide +kernel
theorem dX6_worldIn_7 : decode cX6_worldIn 7 = .ok (.if_icmp .ge 9, 3) := by decide +kernel
theorem dX6_worldIn_10 : decode cX6_worldIn 10 = .ok (.aload_n 0, 1) := by decide +kernel
theorem dX6_worldIn_11 : decode cX6_worldIn 11 = .ok (.iload_n 1, 1) := by decide +kernel
theorem dX6_worldIn_12 : decode cX6_worldIn 12 = .ok (.aaload, 1) := by decide +kernel
theorem dX6_worldIn_13 : decode cX6_worldIn 13 = .ok (.goto 4, 3) := by decide +kernel
theorem dX6_worldIn_16 : decode cX6_worldIn 16 = .ok (.aconst_null, 1) := by decide +kernel
theorem dX6_worldIn_17 : decode cX6_worldIn 17 = .ok (.areturn, 1) := by decide +kernel
set_option maxRecDepth 20000 in
theorem ggX6_copyInto_X6_worldIn : GoodIn wsX6_copyInto wsX6_worldIn := goodIn_r _ [5] (by decide +kernel) (by decide +kernel)
set_option maxRecDepth 20000 in
theorem gX6_copyInto_X6_worldIn : GoodIn wsX6_copyInto (va_wsS RX6 262 yX6_worldIn wsX6_worldIn) := goodIn_app (goodIn_of _ (by decide +kernel)) ggX6_copyInto_X6_worldIn
set_option maxRecDepth 20000 in
theorem ggX6_copyInto_X5_copyFrom : GoodIn wsX6_copyInto wsX5_copyFrom := goodIn_r _ [10, 11, 12, 13, 14, 15, 16, 17, 18, 19, 20, 21, 22, 23, 24, 25, 26, 27, 28, 29, 30, 31, 32, 33, 34, 35, 36, 37, 38, 39, 40, 41, 42, 43, 44, 45, 46, 47, 48, 49, 50, 51, 52, 53, 54, 55, 56, 57, 58, 59, 60, 61, 62, 63, 64, 65, 66, 67, 77, 78, 79, 80, 81, 82, 83, 84, 85, 86, 87, 88, 89, 90, 91, 92, 93, 94, 95, 96, 97, 98, 99, 100, 101, 102, 103] (by decide +kernel) (by decide +kernel)
set_option maxRecDepth 20000 in
theorem gX6_copyInto_X5_copyFrom : GoodIn wsX6_copyInto (wsV RX6 228 RX5 yX5_copyFrom wsX5_copyFrom) := goodIn_app (goodIn_of _ (by decide +kernel)) ggX6_copyInto_X5_copyFrom
theorem dX6_copyInto_0 : decode cX6_copyInto 0 = .ok (.aload_n 1, 1) := by decide +kernel
theorem dX6_copyInto_1 : decode cX6_copyInto 1 = .ok (.iload_n 2, 1) := by decide +kernel
theorem dX6_copyInto_2 : decode cX6_copyInto 2 = .ok (.invokestatic 262, 3) := by decide +kernel
theorem dX6_copyInto_5 : decode cX6_copyInto 5 = .ok (.astore_n 3, 1) := by decide +kernel
theorem dX6_copyInto_6 : decode cX6_copyInto 6 = .ok (.aload_n 3, 1) := by decide +kernel
theorem dX6_copyInto_7 : decode cX6_copyInto 7 = .ok (.ifnull 11, 3) := by decide +kernel
theorem dX6_copyInto_10 : decode cX6_copyInto 10 = .ok (.aload_n 3, 1) := by decide +kernel
theorem dX6_copyInto_11 : decode cX6_copyInto 11 = .ok (.aload_n 0, 1) := by decide +kernel
theorem dX6_copyInto_12 : decode cX6_copyInto 12 = .ok (.getfield 10, 3) := by decide +kernel
theorem dX6_copyInto_15 : decode cX6_copyInto 15 = .ok (.invokevirtual 228, 3) := by decide +kernel
theorem dX6_copyInto_18 : decode cX6_copyInto 18 = .ok (.return_, 1) := by decide +kernel
set_option maxRecDepth 20000 in
theorem ggX6_record_X6_copyInto : GoodIn wsX6_record wsX6_copyInto := goodIn_r _ [12, 13, 14, 15, 11, 16, 17, 18, 19, 20, 21, 22, 23, 24, 25, 26, 27, 28, 29, 30, 31, 32, 33, 34, 35, 36, 37, 38, 39, 40, 41, 42, 43, 5, 6, 7, 44, 45, 46, 47, 48, 49, 50, 51, 52, 53, 54, 55, 56, 57, 58, 59, 60, 61, 62, 63, 64, 65, 66, 67, 68, 69, 70, 71, 72, 73, 74, 75, 76, 77, 78, 79, 80, 81, 82, 83, 84, 85, 86, 87, 88, 89, 90, 91, 92, 93, 94, 95, 96, 97, 98, 99, 100, 101, 102, 103, 104, 105, 106, 107, 108, 109, 110, 111] (by decide +kernel) (by decide +kernel)
set_option maxRecDepth 20000 in
theorem gX6_record_X6_copyInto : GoodIn wsX6_record (wsV RX6 266 RX6 yX6_copyInto wsX6_copyInto) := goodIn_app (goodIn_of _ (by decide +kernel)) ggX6_record_X6_copyInto
theorem dX6_record_0 : decode cX6_record 0 = .ok (.aload_n 0, 1) := by decide +kernel
theorem dX6_record_1 : decode cX6_record 1 = .ok (.aload_n 0, 1) := by decide +kernel
theorem dX6_record_2 : decode cX6_record 2 = .ok (.getfield 26, 3) := by decide +kernel
theorem dX6_record_5 : decode cX6_record 5 = .ok (.aload_n 0, 1) := by decide +kernel
theorem dX6_record_6 : decode cX6_record 6 = .ok (.getfield 259, 3) := by decide +kernel
theorem dX6_record_9 : decode cX6_record 9 = .ok (.invokevirtual 266, 3) := by decide +kernel
theorem dX6_record_12 : decode cX6_record 12 = .ok (.aload_n 0, 1) := by decide +kernel
theorem dX6_record_13 : decode cX6_record 13 = .ok (.aload_n 0, 1) := by decide +kernel
theorem dX6_record_14 : decode cX6_record 14 = .ok (.getfield 259, 3) := by decide +kernel
theorem dX6_record_17 : decode cX6_record 17 = .ok (.iconst 5, 1) := by decide +kernel
theorem dX6_record_18 : decode cX6_record 18 = .ok (.if_icmp .ne 7, 3) := by decide +kernel
theorem dX6_record_21 : decode cX6_record 21 = .ok (.iconst 0, 1) := by decide +kernel
theorem dX6_record_22 : decode cX6_record 22 = .ok (.goto 9, 3) := by decide +kernel
theorem dX6_record_25 : decode cX6_record 25 = .ok (.aload_n 0, 1) := by decide +kernel
theorem dX6_record_26 : decode cX6_record 26 = .ok (.getfield 259, 3) := by decide +kernel
theorem dX6_record_29 : decode cX6_record 29 = .ok (.iconst 1, 1) := by decide +kernel
theorem dX6_record_30 : decode cX6_record 30 = .ok (.iadd, 1) := by decide +kernel
theorem dX6_record_31 : decode cX6_record 31 = .ok (.putfield 259, 3) := by decide +kernel
theorem dX6_record_34 : decode cX6_record 34 = .ok (.aload_n 0, 1) := by decide +kernel
theorem dX6_record_35 : decode cX6_record 35 = .ok (.aload_n 0, 1) := by decide +kernel
theorem dX6_record_36 : decode cX6_record 36 = .ok (.getfield 219, 3) := by decide +kernel
theorem dX6_record_39 : decode cX6_record 39 = .ok (.iconst 1, 1) := by decide +kernel
theorem dX6_record_40 : decode cX6_record 40 = .ok (.iadd, 1) := by decide +kernel
theorem dX6_record_41 : decode cX6_record 41 = .ok (.bipush 6, 2) := by decide +kernel
theorem dX6_record_43 : decode cX6_record 43 = .ok (.invokestatic 270, 3) := by decide +kernel
theorem dX6_record_46 : decode cX6_record 46 = .ok (.putfield 219, 3) := by decide +kernel
theorem dX6_record_49 : decode cX6_record 49 = .ok (.return_, 1) := by decide +kernel
set_option maxRecDepth 20000 in
theorem ggX6_bringWords_X4_startWord : GoodIn wsX6_bringWords wsX4_startWord := goodIn_r _ [10, 11, 12, 13, 14, 15, 16, 17, 18, 19, 20, 21, 22, 23, 9, 24, 25, 26, 27, 28, 29, 30, 58, 59, 60, 61, 62, 63, 64, 65, 66] (by decide +kernel) (by decide +kernel)
set_option maxRecDepth 20000 in
theorem gX6_bringWords_X4_startWord : GoodIn wsX6_bringWords (wsV RX6 275 RX4 yX4_startWord wsX4_startWord) := goodIn_app (goodIn_of _ (by decide +kernel)) ggX6_bringWords_X4_startWord
set_option maxRecDepth 20000 in
theorem ggX6_bringWords_X0_get : GoodIn wsX6_bringWords wsX0_get := goodIn_r _ [30, 20, 66] (by decide +kernel) (by decide +kernel)
set_option maxRecDepth 20000 in
theorem gX6_bringWords_X0_get : GoodIn wsX6_bringWords (wsV RX6 77 RX0 yX0_get wsX0_get) := goodIn_app (goodIn_of _ (by decide +kernel)) ggX6_bringWords_X0_get
set_option maxRecDepth 20000 in
theorem ggX6_bringWords_X4_addLetter : GoodIn wsX6_bringWords wsX4_addLetter := goodIn_r _ [35, 11, 12, 36, 27, 28, 29, 18, 30, 20, 15, 16, 17, 19, 37, 38, 39, 40, 58, 59, 60, 61, 62, 63, 64, 65, 66] (by decide +kernel) (by decide +kernel)
set_option maxRecDepth 20000 in
theorem gX6_bringWords_X4_addLetter : GoodIn wsX6_bringWords (wsV RX6 281 RX4 yX4_addLetter wsX4_addLetter) := goodIn_app (goodIn_of _ (by decide +kernel)) ggX6_bringWords_X4_addLetter
theorem dX6_bringWords_0 : decode cX6_bringWords 0 = .ok (.aload_n 0, 1) := by decide +kernel
theorem dX6_bringWords_1 : decode cX6_bringWords 1 = .ok (.getfield 10, 3) := by decide +kernel
theorem dX6_bringWords_4 : decode cX6_bringWords 4 = .ok (.getfield 117, 3) := by decide +kernel
theorem dX6_bringWords_7 : decode cX6_bringWords 7 = .ok (.iload_n 1, 1) := by decide +kernel
theorem dX6_bringWords_8 : decode cX6_bringWords 8 = .ok (.invokevirtual 275, 3) := by decide +kernel
theorem dX6_bringWords_11 : decode cX6_bringWords 11 = .ok (.iconst 0, 1) := by decide +kernel
theorem dX6_bringWords_12 : decode cX6_bringWords 12 = .ok (.istore_n 2, 1) := by decide +kernel
theorem dX6_bringWords_13 : decode cX6_bringWords 13 = .ok (.iload_n 2, 1) := by decide +kernel
theorem dX6_bringWords_14 : decode cX6_bringWords 14 = .ok (.aload_n 0, 1) := by decide +kernel
theorem dX6_bringWords_15 : decode cX6_bringWords 15 = .ok (.getfield 22, 3) := by decide +kernel
theorem dX6_bringWords_18 : decode cX6_bringWords 18 = .ok (.getfield 132, 3) := by decide +kernel
theorem dX6_bringWords_21 : decode cX6_bringWords 21 = .ok (.if_icmp .ge 52, 3) := by decide +kernel
theorem dX6_bringWords_24 : decode cX6_bringWords 24 = .ok (.aload_n 0, 1) := by decide +kernel
theorem dX6_bringWords_25 : decode cX6_bringWords 25 = .ok (.getfield 22, 3) := by decide +kernel
theorem dX6_bringWords_28 : decode cX6_bringWords 28 = .ok (.getfield 278, 3) := by decide +kernel
theorem dX6_bringWords_31 : decode cX6_bringWords 31 = .ok (.iload_n 2, 1) := by decide +kernel
theorem dX6_bringWords_32 : decode cX6_bringWords 32 = .ok (.invokevirtual 77, 3) := by decide +kernel
theorem dX6_bringWords_35 : decode cX6_bringWords 35 = .ok (.istore_n 3, 1) := by decide +kernel
theorem dX6_bringWords_36 : decode cX6_bringWords 36 = .ok (.iload_n 3, 1) := by decide +kernel
theorem dX6_bringWords_37 : decode cX6_bringWords 37 = .ok (.bipush 44, 2) := by decide +kernel
theorem dX6_bringWords_39 : decode cX6_bringWords 39 = .ok (.if_icmp .ne 17, 3) := by decide +kernel
theorem dX6_bringWords_42 : decode cX6_bringWords 42 = .ok (.aload_n 0, 1) := by decide +kernel
theorem dX6_bringWords_43 : decode cX6_bringWords 43 = .ok (.getfield 10, 3) := by decide +kernel
theorem dX6_bringWords_46 : decode cX6_bringWords 46 = .ok (.getfield 117, 3) := by decide +kernel
theorem dX6_bringWords_49 : decode cX6_bringWords 49 = .ok (.iload_n 1, 1) := by decide +kernel
theorem dX6_bringWords_50 : decode cX6_bringWords 50 = .ok (.invokevirtual 275, 3) := by decide +kernel
theorem dX6_bringWords_53 : decode cX6_bringWords 53 = .ok (.goto 14, 3) := by decide +kernel
theorem dX6_bringWords_56 : decode cX6_bringWords 56 = .ok (.aload_n 0, 1) := by decide +kernel
theorem dX6_bringWords_57 : decode cX6_bringWords 57 = .ok (.getfield 10, 3) := by decide +kernel
theorem dX6_bringWords_60 : decode cX6_bringWords 60 = .ok (.getfield 117, 3) := by decide +kernel
theorem dX6_bringWords_63 : decode cX6_bringWords 63 = .ok (.iload_n 3, 1) := by decide +kernel
theorem dX6_bringWords_64 : decode cX6_bringWords 64 = .ok (.invokevirtual 281, 3) := by decide +kernel
theorem dX6_bringWords_67 : decode cX6_bringWords 67 = .ok (.iinc 2 1, 3) := by decide +kernel
theorem dX6_bringWords_70 : decode cX6_bringWords 70 = .ok (.goto (-57), 3) := by decide +kernel
theorem dX6_bringWords_73 : decode cX6_bringWords 73 = .ok (.return_, 1) := by decide +kernel
set_option maxRecDepth 20000 in
theorem ggX6_codesIn_X6_isWithin : GoodIn wsX6_codesIn wsX6_isWithin := goodIn_r _ [5] (by decide +kernel) (by decide +kernel)
set_option maxRecDepth 20000 in
theorem gX6_codesIn_X6_isWithin : GoodIn wsX6_codesIn (va_wsS RX6 49 yX6_isWithin wsX6_isWithin) := goodIn_app (goodIn_of _ (by decide +kernel)) ggX6_codesIn_X6_isWithin
theorem dX6_codesIn_0 : decode cX6_codesIn 0 = .ok (.lload_n 0, 1) := by decide +kernel
theorem dX6_codesIn_1 : decode cX6_codesIn 1 = .ok (.lstore_n 2, 1) := by decide +kernel
theorem dX6_codesIn_2 : decode cX6_codesIn 2 = .ok (.iconst 0, 1) := by decide +kernel
theorem dX6_codesIn_3 : decode cX6_codesIn 3 = .ok (.istore 4, 2) := by decide +kernel
theorem dX6_codesIn_5 : decode cX6_codesIn 5 = .ok (.iconst 0, 1) := by decide +kernel
theorem dX6_codesIn_6 : decode cX6_codesIn 6 = .ok (.istore 5, 2) := by decide +kernel
theorem dX6_codesIn_8 : decode cX6_codesIn 8 = .ok (.iload 5, 2) := by decide +kernel
theorem dX6_codesIn_10 : decode cX6_codesIn 10 = .ok (.bipush 8, 2) := by decide +kernel
theorem dX6_codesIn_12 : decode cX6_codesIn 12 = .ok (.if_icmp .ge 43, 3) := by decide +kernel
theorem dX6_codesIn_15 : decode cX6_codesIn 15 = .ok (.lload_n 2, 1) := by decide +kernel
theorem dX6_codesIn_16 : decode cX6_codesIn 16 = .ok (.lconst 0, 1) := by decide +kernel
theorem dX6_codesIn_17 : decode cX6_codesIn 17 = .ok (.lcmp, 1) := by decide +kernel
theorem dX6_codesIn_18 : decode cX6_codesIn 18 = .ok (.ifCond .eq 37, 3) := by decide +kernel
theorem dX6_codesIn_21 : decode cX6_codesIn 21 = .ok (.lload_n 2, 1) := by decide +kernel
theorem dX6_codesIn_22 : decode cX6_codesIn 22 = .ok (.ldc2_w 284, 3) := by decide +kernel
theorem dX6_codesIn_25 : decode cX6_codesIn 25 = .ok (.land, 1) := by decide +kernel
theorem dX6_codesIn_26 : decode cX6_codesIn 26 = .ok (.l2i, 1) := by decide +kernel
theorem dX6_codesIn_27 : decode cX6_codesIn 27 = .ok (.bipush 33, 2) := by decide +kernel
theorem dX6_codesIn_29 : decode cX6_codesIn 29 = .ok (.bipush 126, 2) := by decide +kernel
theorem dX6_codesIn_31 : decode cX6_codesIn 31 = .ok (.invokestatic 49, 3) := by decide +kernel
theorem dX6_codesIn_34 : decode cX6_codesIn 34 = .ok (.ifCond .ne 7, 3) := by decide +kernel
theorem dX6_codesIn_37 : decode cX6_codesIn 37 = .ok (.sipush (-1002), 3) := by decide +kernel
theorem dX6_codesIn_40 : decode cX6_codesIn 40 = .ok (.ireturn, 1) := by decide +kernel
theorem dX6_codesIn_41 : decode cX6_codesIn 41 = .ok (.iinc 4 1, 3) := by decide +kernel
theorem dX6_codesIn_44 : decode cX6_codesIn 44 = .ok (.lload_n 2, 1) := by decide +kernel
theorem dX6_codesIn_45 : decode cX6_codesIn 45 = .ok (.bipush 8, 2) := by decide +kernel
theorem dX6_codesIn_47 : decode cX6_codesIn 47 = .ok (.lushr, 1) := by decide +kernel
theorem dX6_codesIn_48 : decode cX6_codesIn 48 = .ok (.lstore_n 2, 1) := by decide +kernel
theorem dX6_codesIn_49 : decode cX6_codesIn 49 = .ok (.iinc 5 1, 3) := by decide +kernel
theorem dX6_codesIn_52 : decode cX6_codesIn 52 = .ok (.goto (-44), 3) := by decide +kernel
theorem dX6_codesIn_55 : decode cX6_codesIn 55 = .ok (.iload 4, 2) := by decide +kernel
theorem dX6_codesIn_57 : decode cX6_codesIn 57 = .ok (.ifCond .ne 9, 3) := by decide +kernel
theorem dX6_codesIn_60 : decode cX6_codesIn 60 = .ok (.sipush (-1002), 3) := by decide +kernel
theorem dX6_codesIn_63 : decode cX6_codesIn 63 = .ok (.goto 5, 3) := by decide +kernel
theorem dX6_codesIn_66 : decode cX6_codesIn 66 = .ok (.iload 4, 2) := by decide +kernel
theorem dX6_codesIn_68 : decode cX6_codesIn 68 = .ok (.ireturn, 1) := by decide +kernel
theorem dX6_codeAt_0 : decode cX6_codeAt 0 = .ok (.lload_n 0, 1) := by decide +kernel
theorem dX6_codeAt_1 : decode cX6_codeAt 1 = .ok (.bipush 8, 2) := by decide +kernel
theorem dX6_codeAt_3 : decode cX6_codeAt 3 = .ok (.iload_n 2, 1) := by decide +kernel
theorem dX6_codeAt_4 : decode cX6_codeAt 4 = .ok (.imul, 1) := by decide +kernel
theorem dX6_codeAt_5 : decode cX6_codeAt 5 = .ok (.lushr, 1) := by decide +kernel
theorem dX6_codeAt_6 : decode cX6_codeAt 6 = .ok (.l2i, 1) := by decide +kernel
theorem dX6_codeAt_7 : decode cX6_codeAt 7 = .ok (.sipush 255, 3) := by decide +kernel
theorem dX6_codeAt_10 : decode cX6_codeAt 10 = .ok (.iand, 1) := by decide +kernel
theorem dX6_codeAt_11 : decode cX6_codeAt 11 = .ok (.ireturn, 1) := by decide +kernel
set_option maxRecDepth 20000 in
theorem ggX6_findGapsAhead_X3_gapAt : GoodIn wsX6_findGapsAhead wsX3_gapAt := goodIn_r _ [9, 10, 11, 12, 8, 13, 14, 15, 16, 17, 18, 19, 20, 21, 22, 23, 24, 25, 26, 27, 28, 29, 30, 31, 51, 52, 53, 54, 55] (by decide +kernel) (by decide +kernel)
set_option maxRecDepth 20000 in
theorem gX6_findGapsAhead_X3_gapAt : GoodIn wsX6_findGapsAhead (wsV RX6 286 RX3 yX3_gapAt wsX3_gapAt) := goodIn_app (goodIn_of _ (by decide +kernel)) ggX6_findGapsAhead_X3_gapAt
set_option maxRecDepth 20000 in
theorem ggX6_findGapsAhead_X0_set : GoodIn wsX6_findGapsAhead wsX0_set := goodIn_r _ [35, 31, 55] (by decide +kernel) (by decide +kernel)
set_option maxRecDepth 20000 in
theorem gX6_findGapsAhead_X0_set : GoodIn wsX6_findGapsAhead (wsV RX6 81 RX0 yX0_set wsX0_set) := goodIn_app (goodIn_of _ (by decide +kernel)) ggX6_findGapsAhead_X0_set
theorem dX6_findGapsAhead_0 : decode cX6_findGapsAhead 0 = .ok (.iconst 0, 1) := by decide +kernel
theorem dX6_findGapsAhead_1 : decode cX6_findGapsAhead 1 = .ok (.istore_n 1, 1) := by decide +kernel
theorem dX6_findGapsAhead_2 : decode cX6_findGapsAhead 2 = .ok (.iload_n 1, 1) := by decide +kernel
theorem dX6_findGapsAhead_3 : decode cX6_findGapsAhead 3 = .ok (.sipush 200, 3) := by decide +kernel
theorem dX6_findGapsAhead_6 : decode cX6_findGapsAhead 6 = .ok (.if_icmp .ge 36, 3) := by decide +kernel
theorem dX6_findGapsAhead_9 : decode cX6_findGapsAhead 9 = .ok (.aload_n 0, 1) := by decide +kernel
theorem dX6_findGapsAhead_10 : decode cX6_findGapsAhead 10 = .ok (.getfield 42, 3) := by decide +kernel
theorem dX6_findGapsAhead_13 : decode cX6_findGapsAhead 13 = .ok (.iload_n 1, 1) := by decide +kernel
theorem dX6_findGapsAhead_14 : decode cX6_findGapsAhead 14 = .ok (.aload_n 0, 1) := by decide +kernel
theorem dX6_findGapsAhead_15 : decode cX6_findGapsAhead 15 = .ok (.getfield 10, 3) := by decide +kernel
theorem dX6_findGapsAhead_18 : decode cX6_findGapsAhead 18 = .ok (.getfield 56, 3) := by decide +kernel
theorem dX6_findGapsAhead_21 : decode cX6_findGapsAhead 21 = .ok (.aload_n 0, 1) := by decide +kernel
theorem dX6_findGapsAhead_22 : decode cX6_findGapsAhead 22 = .ok (.getfield 10, 3) := by decide +kernel
theorem dX6_findGapsAhead_25 : decode cX6_findGapsAhead 25 = .ok (.getfield 66, 3) := by decide +kernel
theorem dX6_findGapsAhead_28 : decode cX6_findGapsAhead 28 = .ok (.iload_n 1, 1) := by decide +kernel
theorem dX6_findGapsAhead_29 : decode cX6_findGapsAhead 29 = .ok (.iadd, 1) := by decide +kernel
theorem dX6_findGapsAhead_30 : decode cX6_findGapsAhead 30 = .ok (.invokevirtual 286, 3) := by decide +kernel
theorem dX6_findGapsAhead_33 : decode cX6_findGapsAhead 33 = .ok (.invokevirtual 81, 3) := by decide +kernel
theorem dX6_findGapsAhead_36 : decode cX6_findGapsAhead 36 = .ok (.iinc 1 1, 3) := by decide +kernel
theorem dX6_findGapsAhead_39 : decode cX6_findGapsAhead 39 = .ok (.goto (-37), 3) := by decide +kernel
theorem dX6_findGapsAhead_42 : decode cX6_findGapsAhead 42 = .ok (.return_, 1) := by decide +kernel
set_option maxRecDepth 20000 in
theorem ggX6_hasGapAhead_X0_get : GoodIn wsX6_hasGapAhead wsX0_get := goodIn_r _ [10, 11, 21] (by decide +kernel) (by decide +kernel)
set_option maxRecDepth 20000 in
theorem gX6_hasGapAhead_X0_get : GoodIn wsX6_hasGapAhead (wsV RX6 77 RX0 yX0_get wsX0_get) := goodIn_app (goodIn_of _ (by decide +kernel)) ggX6_hasGapAhead_X0_get
theorem dX6_hasGapAhead_0 : decode cX6_hasGapAhead 0 = .ok (.iconst 0, 1) := by decide +kernel
theorem dX6_hasGapAhead_1 : decode cX6_hasGapAhead 1 = .ok (.istore_n 2, 1) := by decide +kernel
theorem dX6_hasGapAhead_2 : decode cX6_hasGapAhead 2 = .ok (.iload_n 2, 1) := by decide +kernel
theorem dX6_hasGapAhead_3 : decode cX6_hasGapAhead 3 = .ok (.sipush 200, 3) := by decide +kernel
theorem dX6_hasGapAhead_6 : decode cX6_hasGapAhead 6 = .ok (.if_icmp .ge 26, 3) := by decide +kernel
theorem dX6_hasGapAhead_9 : decode cX6_hasGapAhead 9 = .ok (.aload_n 0, 1) := by decide +kernel
theorem dX6_hasGapAhead_10 : decode cX6_hasGapAhead 10 = .ok (.getfield 42, 3) := by decide +kernel
theorem dX6_hasGapAhead_13 : decode cX6_hasGapAhead 13 = .ok (.iload_n 2, 1) := by decide +kernel
theorem dX6_hasGapAhead_14 : decode cX6_hasGapAhead 14 = .ok (.invokevirtual 77, 3) := by decide +kernel
theorem dX6_hasGapAhead_17 : decode cX6_hasGapAhead 17 = .ok (.invokestatic 289, 3) := by decide +kernel
theorem dX6_hasGapAhead_20 : decode cX6_hasGapAhead 20 = .ok (.iload_n 1, 1) := by decide +kernel
theorem dX6_hasGapAhead_21 : decode cX6_hasGapAhead 21 = .ok (.if_icmp .ne 5, 3) := by decide +kernel
theorem dX6_hasGapAhead_24 : decode cX6_hasGapAhead 24 = .ok (.iconst 1, 1) := by decide +kernel
theorem dX6_hasGapAhead_25 : decode cX6_hasGapAhead 25 = .ok (.ireturn, 1) := by decide +kernel
theorem dX6_hasGapAhead_26 : decode cX6_hasGapAhead 26 = .ok (.iinc 2 1, 3) := by decide +kernel
theorem dX6_hasGapAhead_29 : decode cX6_hasGapAhead 29 = .ok (.goto (-27), 3) := by decide +kernel
theorem dX6_hasGapAhead_32 : decode cX6_hasGapAhead 32 = .ok (.iconst 0, 1) := by decide +kernel
theorem dX6_hasGapAhead_33 : decode cX6_hasGapAhead 33 = .ok (.ireturn, 1) := by decide +kernel
set_option maxRecDepth 20000 in
theorem ggX6_wordsPassingWith_X5_copyFrom : GoodIn wsX6_wordsPassingWith wsX5_copyFrom := goodIn_r _ [11, 12, 13, 14, 15, 16, 17, 18, 19, 20, 21, 22, 23, 24, 25, 26, 27, 28, 29, 30, 31, 32, 33, 34, 35, 36, 37, 38, 39, 40, 41, 42, 43, 44, 45, 46, 47, 48, 49, 50, 51, 52, 53, 54, 55, 56, 57, 58, 59, 60, 61, 62, 63, 64, 65, 66, 67, 68, 171, 172, 173, 174, 175, 176, 185, 186, 187, 188, 189, 177, 178, 179, 180, 181, 182, 183, 184, 190, 191, 192, 193, 194, 195, 196, 197] (by decide +kernel) (by decide +kernel)
set_option maxRecDepth 20000 in
theorem gX6_wordsPassingWith_X5_copyFrom : GoodIn wsX6_wordsPassingWith (wsV RX6 228 RX5 yX5_copyFrom wsX5_copyFrom) := goodIn_app (goodIn_of _ (by decide +kernel)) ggX6_wordsPassingWith_X5_copyFrom
set_option maxRecDepth 20000 in
theorem ggX6_wordsPassingWith_X0_set : GoodIn wsX6_wordsPassingWith wsX0_set := goodIn_r _ [72, 32, 189] (by decide +kernel) (by decide +kernel)
set_option maxRecDepth 20000 in
theorem gX6_wordsPassingWith_X0_set : GoodIn wsX6_wordsPassingWith (wsV RX6 81 RX0 yX0_set wsX0_set) := goodIn_app (goodIn_of _ (by decide +kernel)) ggX6_wordsPassingWith_X0_set
set_option maxRecDepth 20000 in
theorem ggX6_wordsPassingWith_X0_get : GoodIn wsX6_wordsPassingWith wsX0_get := goodIn_r _ [76, 32, 189] (by decide +kernel) (by decide +kernel)
set_option maxRecDepth 20000 in
theorem gX6_wordsPassingWith_X0_get : GoodIn wsX6_wordsPassingWith (wsV RX6 77 RX0 yX0_get wsX0_get) := goodIn_app (goodIn_of _ (by decide +kernel)) ggX6_wordsPassingWith_X0_get
set_option maxRecDepth 20000 in
theorem ggX6_wordsPassingWith_X5_stepAcross : GoodIn wsX6_wordsPassingWith wsX5_stepAcross := goodIn_r _ [80, 13, 17, 15, 81, 82, 83, 44, 84, 85, 86, 35, 87, 47, 88, 89, 90, 91, 49, 92, 74, 75, 30, 76, 32, 93, 94, 95, 10, 96, 97, 14, 98, 99, 100, 101, 102, 50, 103, 104, 105, 106, 58, 107, 66, 108, 109, 110, 111, 112, 65, 113, 114, 115, 116, 62, 117, 118, 119, 120, 121, 70, 71, 72, 122, 123, 124, 125, 126, 16, 127, 128, 129, 130, 131, 132, 133, 134, 135, 136, 137, 51, 138, 139, 140, 141, 142, 63, 143, 144, 145, 146, 147, 148, 149, 150, 151, 152, 153, 154, 155, 156, 157, 171, 172, 173, 174, 175, 176, 177, 178, 179, 180, 181, 182, 183, 184, 189, 190, 191, 192, 193, 194, 195, 196, 197] (by decide +kernel) (by decide +kernel)
set_option maxRecDepth 20000 in
theorem gX6_wordsPassingWith_X5_stepAcross : GoodIn wsX6_wordsPassingWith (wsV RX6 292 RX5 yX5_stepAcross wsX5_stepAcross) := goodIn_app (goodIn_of _ (by decide +kernel)) ggX6_wordsPassingWith_X5_stepAcross
set_option maxRecDepth 20000 in
theorem ggX6_wordsPassingWith_X0_sum : GoodIn wsX6_wordsPassingWith wsX0_sum := goodIn_r _ [161, 32, 189] (by decide +kernel) (by decide +kernel)
set_option maxRecDepth 20000 in
theorem gX6_wordsPassingWith_X0_sum : GoodIn wsX6_wordsPassingWith (wsV RX6 110 RX0 yX0_sum wsX0_sum) := goodIn_app (goodIn_of _ (by decide +kernel)) ggX6_wordsPassingWith_X0_sum
theorem dX6_wordsPassingWith_0 : decode cX6_wordsPassingWith 0 = .ok (.aload_n 0, 1) := by decide +kernel
theorem dX6_wordsPassingWith_1 : decode cX6_wordsPassingWith 1 = .ok (.getfield 16, 3) := by decide +kernel
theorem dX6_wordsPassingWith_4 : decode cX6_wordsPassingWith 4 = .ok (.aload_n 0, 1) := by decide +kernel
theorem dX6_wordsPassingWith_5 : decode cX6_wordsPassingWith 5 = .ok (.getfield 10, 3) := by decide +kernel
theorem dX6_wordsPassingWith_8 : decode cX6_wordsPassingWith 8 = .ok (.invokevirtual 228, 3) := by decide +kernel
theorem dX6_wordsPassingWith_11 : decode cX6_wordsPassingWith 11 = .ok (.aload_n 0, 1) := by decide +kernel
theorem dX6_wordsPassingWith_12 : decode cX6_wordsPassingWith 12 = .ok (.getfield 16, 3) := by decide +kernel
theorem dX6_wordsPassingWith_15 : decode cX6_wordsPassingWith 15 = .ok (.getfield 88, 3) := by decide +kernel
theorem dX6_wordsPassingWith_18 : decode cX6_wordsPassingWith 18 = .ok (.getfield 100, 3) := by decide +kernel
theorem dX6_wordsPassingWith_21 : decode cX6_wordsPassingWith 21 = .ok (.iload_n 1, 1) := by decide +kernel
theorem dX6_wordsPassingWith_22 : decode cX6_wordsPassingWith 22 = .ok (.iload_n 2, 1) := by decide +kernel
theorem dX6_wordsPassingWith_23 : decode cX6_wordsPassingWith 23 = .ok (.invokevirtual 81, 3) := by decide +kernel
theorem dX6_wordsPassingWith_26 : decode cX6_wordsPassingWith 26 = .ok (.iconst 0, 1) := by decide +kernel
theorem dX6_wordsPassingWith_27 : decode cX6_wordsPassingWith 27 = .ok (.istore_n 3, 1) := by decide +kernel
theorem dX6_wordsPassingWith_28 : decode cX6_wordsPassingWith 28 = .ok (.iload_n 3, 1) := by decide +kernel
theorem dX6_wordsPassingWith_29 : decode cX6_wordsPassingWith 29 = .ok (.sipush 200, 3) := by decide +kernel
theorem dX6_wordsPassingWith_32 : decode cX6_wordsPassingWith 32 = .ok (.if_icmp .ge 24, 3) := by decide +kernel
theorem dX6_wordsPassingWith_35 : decode cX6_wordsPassingWith 35 = .ok (.aload_n 0, 1) := by decide +kernel
theorem dX6_wordsPassingWith_36 : decode cX6_wordsPassingWith 36 = .ok (.getfield 16, 3) := by decide +kernel
theorem dX6_wordsPassingWith_39 : decode cX6_wordsPassingWith 39 = .ok (.aload_n 0, 1) := by decide +kernel
theorem dX6_wordsPassingWith_40 : decode cX6_wordsPassingWith 40 = .ok (.getfield 42, 3) := by decide +kernel
theorem dX6_wordsPassingWith_43 : decode cX6_wordsPassingWith 43 = .ok (.iload_n 3, 1) := by decide +kernel
theorem dX6_wordsPassingWith_44 : decode cX6_wordsPassingWith 44 = .ok (.invokevirtual 77, 3) := by decide +kernel
theorem dX6_wordsPassingWith_47 : decode cX6_wordsPassingWith 47 = .ok (.invokevirtual 292, 3) := by decide +kernel
theorem dX6_wordsPassingWith_50 : decode cX6_wordsPassingWith 50 = .ok (.iinc 3 1, 3) := by decide +kernel
theorem dX6_wordsPassingWith_53 : decode cX6_wordsPassingWith 53 = .ok (.goto (-25), 3) := by decide +kernel
theorem dX6_wordsPassingWith_56 : decode cX6_wordsPassingWith 56 = .ok (.aload_n 0, 1) := by decide +kernel
theorem dX6_wordsPassingWith_57 : decode cX6_wordsPassingWith 57 = .ok (.getfield 16, 3) := by decide +kernel
theorem dX6_wordsPassingWith_60 : decode cX6_wordsPassingWith 60 = .ok (.getfield 88, 3) := by decide +kernel
theorem dX6_wordsPassingWith_63 : decode cX6_wordsPassingWith 63 = .ok (.getfield 136, 3) := by decide +kernel
theorem dX6_wordsPassingWith_66 : decode cX6_wordsPassingWith 66 = .ok (.invokevirtual 110, 3) := by decide +kernel
theorem dX6_wordsPassingWith_69 : decode cX6_wordsPassingWith 69 = .ok (.aload_n 0, 1) := by decide +kernel
theorem dX6_wordsPassingWith_70 : decode cX6_wordsPassingWith 70 = .ok (.getfield 10, 3) := by decide +kernel
theorem dX6_wordsPassingWith_73 : decode cX6_wordsPassingWith 73 = .ok (.getfield 88, 3) := by decide +kernel
theorem dX6_wordsPassingWith_76 : decode cX6_wordsPassingWith 76 = .ok (.getfield 136, 3) := by decide +kernel
theorem dX6_wordsPassingWith_79 : decode cX6_wordsPassingWith 79 = .ok (.invokevirtual 110, 3) := by decide +kernel
theorem dX6_wordsPassingWith_82 : decode cX6_wordsPassingWith 82 = .ok (.isub, 1) := by decide +kernel
theorem dX6_wordsPassingWith_83 : decode cX6_wordsPassingWith 83 = .ok (.ireturn, 1) := by decide +kernel
set_option maxRecDepth 20000 in
theorem ggX6_openStepsWith_X0_get : GoodIn wsX6_openStepsWith wsX0_get := goodIn_r _ [15, 16, 44] (by decide +kernel) (by decide +kernel)
set_option maxRecDepth 20000 in
theorem gX6_openStepsWith_X0_get : GoodIn wsX6_openStepsWith (wsV RX6 77 RX0 yX0_get wsX0_get) := goodIn_app (goodIn_of _ (by decide +kernel)) ggX6_openStepsWith_X0_get
theorem dX6_openStepsWith_0 : decode cX6_openStepsWith 0 = .ok (.iload_n 3, 1) := by decide +kernel
theorem dX6_openStepsWith_1 : decode cX6_openStepsWith 1 = .ok (.aload_n 0, 1) := by decide +kernel
theorem dX6_openStepsWith_2 : decode cX6_openStepsWith 2 = .ok (.getfield 10, 3) := by decide +kernel
theorem dX6_openStepsWith_5 : decode cX6_openStepsWith 5 = .ok (.getfield 56, 3) := by decide +kernel
theorem dX6_openStepsWith_8 : decode cX6_openStepsWith 8 = .ok (.getfield 74, 3) := by decide +kernel
theorem dX6_openStepsWith_11 : decode cX6_openStepsWith 11 = .ok (.iload_n 1, 1) := by decide +kernel
theorem dX6_openStepsWith_12 : decode cX6_openStepsWith 12 = .ok (.invokevirtual 77, 3) := by decide +kernel
theorem dX6_openStepsWith_15 : decode cX6_openStepsWith 15 = .ok (.isub, 1) := by decide +kernel
theorem dX6_openStepsWith_16 : decode cX6_openStepsWith 16 = .ok (.istore 4, 2) := by decide +kernel
theorem dX6_openStepsWith_18 : decode cX6_openStepsWith 18 = .ok (.iload_n 1, 1) := by decide +kernel
theorem dX6_openStepsWith_19 : decode cX6_openStepsWith 19 = .ok (.ifCond .ne 8, 3) := by decide +kernel
theorem dX6_openStepsWith_22 : decode cX6_openStepsWith 22 = .ok (.iload 4, 2) := by decide +kernel
theorem dX6_openStepsWith_24 : decode cX6_openStepsWith 24 = .ok (.goto 6, 3) := by decide +kernel
theorem dX6_openStepsWith_27 : decode cX6_openStepsWith 27 = .ok (.iload 4, 2) := by decide +kernel
theorem dX6_openStepsWith_29 : decode cX6_openStepsWith 29 = .ok (.ineg, 1) := by decide +kernel
theorem dX6_openStepsWith_30 : decode cX6_openStepsWith 30 = .ok (.istore 5, 2) := by decide +kernel
theorem dX6_openStepsWith_32 : decode cX6_openStepsWith 32 = .ok (.aload_n 0, 1) := by decide +kernel
theorem dX6_openStepsWith_33 : decode cX6_openStepsWith 33 = .ok (.getfield 10, 3) := by decide +kernel
theorem dX6_openStepsWith_36 : decode cX6_openStepsWith 36 = .ok (.getfield 88, 3) := by decide +kernel
theorem dX6_openStepsWith_39 : decode cX6_openStepsWith 39 = .ok (.getfield 100, 3) := by decide +kernel
theorem dX6_openStepsWith_42 : decode cX6_openStepsWith 42 = .ok (.iload_n 2, 1) := by decide +kernel
theorem dX6_openStepsWith_43 : decode cX6_openStepsWith 43 = .ok (.invokevirtual 77, 3) := by decide +kernel
theorem dX6_openStepsWith_46 : decode cX6_openStepsWith 46 = .ok (.istore 6, 2) := by decide +kernel
theorem dX6_openStepsWith_48 : decode cX6_openStepsWith 48 = .ok (.iconst 0, 1) := by decide +kernel
theorem dX6_openStepsWith_49 : decode cX6_openStepsWith 49 = .ok (.istore 7, 2) := by decide +kernel
theorem dX6_openStepsWith_51 : decode cX6_openStepsWith 51 = .ok (.iconst 0, 1) := by decide +kernel
theorem dX6_openStepsWith_52 : decode cX6_openStepsWith 52 = .ok (.istore 8, 2) := by decide +kernel
theorem dX6_openStepsWith_54 : decode cX6_openStepsWith 54 = .ok (.iload 8, 2) := by decide +kernel
theorem dX6_openStepsWith_56 : decode cX6_openStepsWith 56 = .ok (.sipush 200, 3) := by decide +kernel
theorem dX6_openStepsWith_59 : decode cX6_openStepsWith 59 = .ok (.if_icmp .ge 32, 3) := by decide +kernel
theorem dX6_openStepsWith_62 : decode cX6_openStepsWith 62 = .ok (.aload_n 0, 1) := by decide +kernel
theorem dX6_openStepsWith_63 : decode cX6_openStepsWith 63 = .ok (.getfield 42, 3) := by decide +kernel
theorem dX6_openStepsWith_66 : decode cX6_openStepsWith 66 = .ok (.iload 8, 2) := by decide +kernel
theorem dX6_openStepsWith_68 : decode cX6_openStepsWith 68 = .ok (.invokevirtual 77, 3) := by decide +kernel
theorem dX6_openStepsWith_71 : decode cX6_openStepsWith 71 = .ok (.iload 5, 2) := by decide +kernel
theorem dX6_openStepsWith_73 : decode cX6_openStepsWith 73 = .ok (.iadd, 1) := by decide +kernel
theorem dX6_openStepsWith_74 : decode cX6_openStepsWith 74 = .ok (.invokestatic 289, 3) := by decide +kernel
theorem dX6_openStepsWith_77 : decode cX6_openStepsWith 77 = .ok (.iload 6, 2) := by decide +kernel
theorem dX6_openStepsWith_79 : decode cX6_openStepsWith 79 = .ok (.if_icmp .gt 6, 3) := by decide +kernel
theorem dX6_openStepsWith_82 : decode cX6_openStepsWith 82 = .ok (.iinc 7 1, 3) := by decide +kernel
theorem dX6_openStepsWith_85 : decode cX6_openStepsWith 85 = .ok (.iinc 8 1, 3) := by decide +kernel
theorem dX6_openStepsWith_88 : decode cX6_openStepsWith 88 = .ok (.goto (-34), 3) := by decide +kernel
theorem dX6_openStepsWith_91 : decode cX6_openStepsWith 91 = .ok (.iload 7, 2) := by decide +kernel
theorem dX6_openStepsWith_93 : decode cX6_openStepsWith 93 = .ok (.ireturn, 1) := by decide +kernel
end
section
set_option maxRecDepth 20000 in
theorem ggX7_init_X7_ofStore : GoodIn wsX7_init wsX7_ofStore := goodIn_r _ [15] (by decide +kernel) (by decide +kernel)
set_option maxRecDepth 20000 in
theorem gX7_init_X7_ofStore : GoodIn wsX7_init (va_wsS RX7 29 yX7_ofStore wsX7_ofStore) := goodIn_app (goodIn_of _ (by decide +kernel)) ggX7_init_X7_ofStore
set_option maxRecDepth 20000 in
theorem ggX7_init_X7_ofGate : GoodIn wsX7_init wsX7_ofGate := goodIn_r _ [18] (by decide +kernel) (by decide +kernel)
set_option maxRecDepth 20000 in
theorem gX7_init_X7_ofGate : GoodIn wsX7_init (va_wsS RX7 33 yX7_ofGate wsX7_ofGate) := goodIn_app (goodIn_of _ (by decide +kernel)) ggX7_init_X7_ofGate
theorem dX7_init_0 : decode cX7_init 0 = .ok (.aload_n 0, 1) := by decide +kernel
theorem dX7_init_1 : decode cX7_init 1 = .ok (.invokespecial 1, 3) := by decide +kernel
theorem dX7_init_4 : decode cX7_init 4 = .ok (.aload_n 0, 1) := by decide +kernel
theorem dX7_init_5 : decode cX7_init 5 = .ok (.sipush 131, 3) := by decide +kernel
theorem dX7_init_8 : decode cX7_init 8 = .ok (.newarray .int, 2) := by decide +kernel
theorem dX7_init_10 : decode cX7_init 10 = .ok (.putfield 7, 3) := by decide +kernel
theorem dX7_init_13 : decode cX7_init 13 = .ok (.aload_n 0, 1) := by decide +kernel
theorem dX7_init_14 : decode cX7_init 14 = .ok (.sipush 131, 3) := by decide +kernel
theorem dX7_init_17 : decode cX7_init 17 = .ok (.newarray .int, 2) := by decide +kernel
theorem dX7_init_19 : decode cX7_init 19 = .ok (.putfield 13, 3) := by decide +kernel
theorem dX7_init_22 : decode cX7_init 22 = .ok (.aload_n 0, 1) := by decide +kernel
theorem dX7_init_23 : decode cX7_init 23 = .ok (.sipush 786, 3) := by decide +kernel
theorem dX7_init_26 : decode cX7_init 26 = .ok (.newarray .int, 2) := by decide +kernel
theorem dX7_init_28 : decode cX7_init 28 = .ok (.putfield 16, 3) := by decide +kernel
theorem dX7_init_31 : decode cX7_init 31 = .ok (.aload_n 0, 1) := by decide +kernel
theorem dX7_init_32 : decode cX7_init 32 = .ok (.sipush 262, 3) := by decide +kernel
theorem dX7_init_35 : decode cX7_init 35 = .ok (.newarray .int, 2) := by decide +kernel
theorem dX7_init_37 : decode cX7_init 37 = .ok (.putfield 19, 3) := by decide +kernel
theorem dX7_init_40 : decode cX7_init 40 = .ok (.aload_n 0, 1) := by decide +kernel
theorem dX7_init_41 : decode cX7_init 41 = .ok (.iconst 2, 1) := by decide +kernel
theorem dX7_init_42 : decode cX7_init 42 = .ok (.newarray .boolean, 2) := by decide +kernel
theorem dX7_init_44 : decode cX7_init 44 = .ok (.putfield 22, 3) := by decide +kernel
theorem dX7_init_47 : decode cX7_init 47 = .ok (.aload_n 0, 1) := by decide +kernel
theorem dX7_init_48 : decode cX7_init 48 = .ok (.bipush 60, 2) := by decide +kernel
theorem dX7_init_50 : decode cX7_init 50 = .ok (.newarray .int, 2) := by decide +kernel
theorem dX7_init_52 : decode cX7_init 52 = .ok (.putfield 26, 3) := by decide +kernel
theorem dX7_init_55 : decode cX7_init 55 = .ok (.iconst 0, 1) := by decide +kernel
theorem dX7_init_56 : decode cX7_init 56 = .ok (.istore_n 1, 1) := by decide +kernel
theorem dX7_init_57 : decode cX7_init 57 = .ok (.iload_n 1, 1) := by decide +kernel
theorem dX7_init_58 : decode cX7_init 58 = .ok (.iconst 2, 1) := by decide +kernel
theorem dX7_init_59 : decode cX7_init 59 = .ok (.if_icmp .ge 49, 3) := by decide +kernel
theorem dX7_init_62 : decode cX7_init 62 = .ok (.aload_n 0, 1) := by decide +kernel
theorem dX7_init_63 : decode cX7_init 63 = .ok (.getfield 7, 3) := by decide +kernel
theorem dX7_init_66 : decode cX7_init 66 = .ok (.iload_n 1, 1) := by decide +kernel
theorem dX7_init_67 : decode cX7_init 67 = .ok (.iconst 0, 1) := by decide +kernel
theorem dX7_init_68 : decode cX7_init 68 = .ok (.invokestatic 29, 3) := by decide +kernel
theorem dX7_init_71 : decode cX7_init 71 = .ok (.bipush 100, 2) := by decide +kernel
theorem dX7_init_73 : decode cX7_init 73 = .ok (.iastore, 1) := by decide +kernel
theorem dX7_init_74 : decode cX7_init 74 = .ok (.aload_n 0, 1) := by decide +kernel
theorem dX7_init_75 : decode cX7_init 75 = .ok (.getfield 7, 3) := by decide +kernel
theorem dX7_init_78 : decode cX7_init 78 = .ok (.iload_n 1, 1) := by decide +kernel
theorem dX7_init_79 : decode cX7_init 79 = .ok (.iconst 1, 1) := by decide +kernel
theorem dX7_init_80 : decode cX7_init 80 = .ok (.invokestatic 29, 3) := by decide +kernel
theorem dX7_init_83 : decode cX7_init 83 = .ok (.bipush 30, 2) := by decide +kernel
theorem dX7_init_85 : decode cX7_init 85 = .ok (.iastore, 1) := by decide +kernel
theorem dX7_init_86 : decode cX7_init 86 = .ok (.aload_n 0, 1) := by decide +kernel
theorem dX7_init_87 : decode cX7_init 87 = .ok (.getfield 7, 3) := by decide +kernel
theorem dX7_init_90 : decode cX7_init 90 = .ok (.iload_n 1, 1) := by decide +kernel
theorem dX7_init_91 : decode cX7_init 91 = .ok (.iconst 2, 1) := by decide +kernel
theorem dX7_init_92 : decode cX7_init 92 = .ok (.invokestatic 29, 3) := by decide +kernel
theorem dX7_init_95 : decode cX7_init 95 = .ok (.bipush 24, 2) := by decide +kernel
theorem dX7_init_97 : decode cX7_init 97 = .ok (.iconst 4, 1) := by decide +kernel
theorem dX7_init_98 : decode cX7_init 98 = .ok (.iload_n 1, 1) := by decide +kernel
theorem dX7_init_99 : decode cX7_init 99 = .ok (.imul, 1) := by decide +kernel
theorem dX7_init_100 : decode cX7_init 100 = .ok (.isub, 1) := by decide +kernel
theorem dX7_init_101 : decode cX7_init 101 = .ok (.iastore, 1) := by decide +kernel
theorem dX7_init_102 : decode cX7_init 102 = .ok (.iinc 1 1, 3) := by decide +kernel
theorem dX7_init_105 : decode cX7_init 105 = .ok (.goto (-48), 3) := by decide +kernel
theorem dX7_init_108 : decode cX7_init 108 = .ok (.iconst 0, 1) := by decide +kernel
theorem dX7_init_109 : decode cX7_init 109 = .ok (.istore_n 1, 1) := by decide +kernel
theorem dX7_init_110 : decode cX7_init 110 = .ok (.iload_n 1, 1) := by decide +kernel
theorem dX7_init_111 : decode cX7_init 111 = .ok (.iconst 4, 1) := by decide +kernel
theorem dX7_init_112 : decode cX7_init 112 = .ok (.if_icmp .ge 46, 3) := by decide +kernel
theorem dX7_init_115 : decode cX7_init 115 = .ok (.aload_n 0, 1) := by decide +kernel
theorem dX7_init_116 : decode cX7_init 116 = .ok (.getfield 7, 3) := by decide +kernel
theorem dX7_init_119 : decode cX7_init 119 = .ok (.iload_n 1, 1) := by decide +kernel
theorem dX7_init_120 : decode cX7_init 120 = .ok (.iconst 0, 1) := by decide +kernel
theorem dX7_init_121 : decode cX7_init 121 = .ok (.invokestatic 33, 3) := by decide +kernel
theorem dX7_init_124 : decode cX7_init 124 = .ok (.iload_n 1, 1) := by decide +kernel
theorem dX7_init_125 : decode cX7_init 125 = .ok (.iconst 2, 1) := by decide +kernel
theorem dX7_init_126 : decode cX7_init 126 = .ok (.irem, 1) := by decide +kernel
theorem dX7_init_127 : decode cX7_init 127 = .ok (.iastore, 1) := by decide +kernel
theorem dX7_init_128 : decode cX7_init 128 = .ok (.aload_n 0, 1) := by decide +kernel
theorem dX7_init_129 : decode cX7_init 129 = .ok (.getfield 7, 3) := by decide +kernel
theorem dX7_init_132 : decode cX7_init 132 = .ok (.iload_n 1, 1) := by decide +kernel
theorem dX7_init_133 : decode cX7_init 133 = .ok (.iconst 1, 1) := by decide +kernel
theorem dX7_init_134 : decode cX7_init 134 = .ok (.invokestatic 33, 3) := by decide +kernel
theorem dX7_init_137 : decode cX7_init 137 = .ok (.iconst 5, 1) := by decide +kernel
theorem dX7_init_138 : decode cX7_init 138 = .ok (.iastore, 1) := by decide +kernel
theorem dX7_init_139 : decode cX7_init 139 = .ok (.aload_n 0, 1) := by decide +kernel
theorem dX7_init_140 : decode cX7_init 140 = .ok (.getfield 7, 3) := by decide +kernel
theorem dX7_init_143 : decode cX7_init 143 = .ok (.iload_n 1, 1) := by decide +kernel
theorem dX7_init_144 : decode cX7_init 144 = .ok (.iconst 4, 1) := by decide +kernel
theorem dX7_init_145 : decode cX7_init 145 = .ok (.invokestatic 33, 3) := by decide +kernel
theorem dX7_init_148 : decode cX7_init 148 = .ok (.sipush (-1006), 3) := by decide +kernel
theorem dX7_init_151 : decode cX7_init 151 = .ok (.iastore, 1) := by decide +kernel
theorem dX7_init_152 : decode cX7_init 152 = .ok (.iinc 1 1, 3) := by decide +kernel
theorem dX7_init_155 : decode cX7_init 155 = .ok (.goto (-45), 3) := by decide +kernel
theorem dX7_init_158 : decode cX7_init 158 = .ok (.return_, 1) := by decide +kernel
theorem dX7_in_0 : decode cX7_in 0 = .ok (.iload_n 0, 1) := by decide +kernel
theorem dX7_in_1 : decode cX7_in 1 = .ok (.iload_n 1, 1) := by decide +kernel
theorem dX7_in_2 : decode cX7_in 2 = .ok (.if_icmp .lt 12, 3) := by decide +kernel
theorem dX7_in_5 : decode cX7_in 5 = .ok (.iload_n 0, 1) := by decide +kernel
theorem dX7_in_6 : decode cX7_in 6 = .ok (.iload_n 2, 1) := by decide +kernel
theorem dX7_in_7 : decode cX7_in 7 = .ok (.if_icmp .gt 7, 3) := by decide +kernel
theorem dX7_in_10 : decode cX7_in 10 = .ok (.iconst 1, 1) := by decide +kernel
theorem dX7_in_11 : decode cX7_in 11 = .ok (.goto 4, 3) := by decide +kernel
theorem dX7_in_14 : decode cX7_in 14 = .ok (.iconst 0, 1) := by decide +kernel
theorem dX7_in_15 : decode cX7_in 15 = .ok (.ireturn, 1) := by decide +kernel
set_option maxRecDepth 20000 in
theorem ggX7_isStore_X7_in : GoodIn wsX7_isStore wsX7_in := goodIn_r _ [4] (by decide +kernel) (by decide +kernel)
set_option maxRecDepth 20000 in
theorem gX7_isStore_X7_in : GoodIn wsX7_isStore (va_wsS RX7 36 yX7_in wsX7_in) := goodIn_app (goodIn_of _ (by decide +kernel)) ggX7_isStore_X7_in
theorem dX7_isStore_0 : decode cX7_isStore 0 = .ok (.iload_n 0, 1) := by decide +kernel
theorem dX7_isStore_1 : decode cX7_isStore 1 = .ok (.iconst 0, 1) := by decide +kernel
theorem dX7_isStore_2 : decode cX7_isStore 2 = .ok (.iconst 1, 1) := by decide +kernel
theorem dX7_isStore_3 : decode cX7_isStore 3 = .ok (.invokestatic 36, 3) := by decide +kernel
theorem dX7_isStore_6 : decode cX7_isStore 6 = .ok (.ireturn, 1) := by decide +kernel
set_option maxRecDepth 20000 in
theorem ggX7_isGate_X7_in : GoodIn wsX7_isGate wsX7_in := goodIn_r _ [4] (by decide +kernel) (by decide +kernel)
set_option maxRecDepth 20000 in
theorem gX7_isGate_X7_in : GoodIn wsX7_isGate (va_wsS RX7 36 yX7_in wsX7_in) := goodIn_app (goodIn_of _ (by decide +kernel)) ggX7_isGate_X7_in
theorem dX7_isGate_0 : decode cX7_isGate 0 = .ok (.iload_n 0, 1) := by decide +kernel
theorem dX7_isGate_1 : decode cX7_isGate 1 = .ok (.iconst 0, 1) := by decide +kernel
theorem dX7_isGate_2 : decode cX7_isGate 2 = .ok (.iconst 3, 1) := by decide +kernel
theorem dX7_isGate_3 : decode cX7_isGate 3 = .ok (.invokestatic 36, 3) := by decide +kernel
theorem dX7_isGate_6 : decode cX7_isGate 6 = .ok (.ireturn, 1) := by decide +kernel
set_option maxRecDepth 20000 in
theorem ggX7_isWord_X7_in : GoodIn wsX7_isWord wsX7_in := goodIn_r _ [5] (by decide +kernel) (by decide +kernel)
set_option maxRecDepth 20000 in
theorem gX7_isWord_X7_in : GoodIn wsX7_isWord (va_wsS RX7 36 yX7_in wsX7_in) := goodIn_app (goodIn_of _ (by decide +kernel)) ggX7_isWord_X7_in
theorem dX7_isWord_0 : decode cX7_isWord 0 = .ok (.iload_n 1, 1) := by decide +kernel
theorem dX7_isWord_1 : decode cX7_isWord 1 = .ok (.iconst 0, 1) := by decide +kernel
theorem dX7_isWord_2 : decode cX7_isWord 2 = .ok (.aload_n 0, 1) := by decide +kernel
theorem dX7_isWord_3 : decode cX7_isWord 3 = .ok (.getfield 7, 3) := by decide +kernel
theorem dX7_isWord_6 : decode cX7_isWord 6 = .ok (.iconst 4, 1) := by decide +kernel
theorem dX7_isWord_7 : decode cX7_isWord 7 = .ok (.iaload, 1) := by decide +kernel
theorem dX7_isWord_8 : decode cX7_isWord 8 = .ok (.iconst 1, 1) := by decide +kernel
theorem dX7_isWord_9 : decode cX7_isWord 9 = .ok (.isub, 1) := by decide +kernel
theorem dX7_isWord_10 : decode cX7_isWord 10 = .ok (.invokestatic 36, 3) := by decide +kernel
theorem dX7_isWord_13 : decode cX7_isWord 13 = .ok (.ireturn, 1) := by decide +kernel
theorem dX7_ofStore_0 : decode cX7_ofStore 0 = .ok (.iconst 5, 1) := by decide +kernel
theorem dX7_ofStore_1 : decode cX7_ofStore 1 = .ok (.iconst 4, 1) := by decide +kernel
theorem dX7_ofStore_2 : decode cX7_ofStore 2 = .ok (.iload_n 0, 1) := by decide +kernel
theorem dX7_ofStore_3 : decode cX7_ofStore 3 = .ok (.imul, 1) := by decide +kernel
theorem dX7_ofStore_4 : decode cX7_ofStore 4 = .ok (.iadd, 1) := by decide +kernel
theorem dX7_ofStore_5 : decode cX7_ofStore 5 = .ok (.iload_n 1, 1) := by decide +kernel
theorem dX7_ofStore_6 : decode cX7_ofStore 6 = .ok (.iadd, 1) := by decide +kernel
theorem dX7_ofStore_7 : decode cX7_ofStore 7 = .ok (.ireturn, 1) := by decide +kernel
theorem dX7_ofGate_0 : decode cX7_ofGate 0 = .ok (.bipush 13, 2) := by decide +kernel
theorem dX7_ofGate_2 : decode cX7_ofGate 2 = .ok (.bipush 8, 2) := by decide +kernel
theorem dX7_ofGate_4 : decode cX7_ofGate 4 = .ok (.iload_n 0, 1) := by decide +kernel
theorem dX7_ofGate_5 : decode cX7_ofGate 5 = .ok (.imul, 1) := by decide +kernel
theorem dX7_ofGate_6 : decode cX7_ofGate 6 = .ok (.iadd, 1) := by decide +kernel
theorem dX7_ofGate_7 : decode cX7_ofGate 7 = .ok (.iload_n 1, 1) := by decide +kernel
theorem dX7_ofGate_8 : decode cX7_ofGate 8 = .ok (.iadd, 1) := by decide +kernel
theorem dX7_ofGate_9 : decode cX7_ofGate 9 = .ok (.ireturn, 1) := by decide +kernel
theorem dX7_ofWord_0 : decode cX7_ofWord 0 = .ok (.bipush 71, 2) := by decide +kernel
theorem dX7_ofWord_2 : decode cX7_ofWord 2 = .ok (.iconst 5, 1) := by decide +kernel
theorem dX7_ofWord_3 : decode cX7_ofWord 3 = .ok (.iload_n 0, 1) := by decide +kernel
theorem dX7_ofWord_4 : decode cX7_ofWord 4 = .ok (.imul, 1) := by decide +kernel
theorem dX7_ofWord_5 : decode cX7_ofWord 5 = .ok (.iadd, 1) := by decide +kernel
theorem dX7_ofWord_6 : decode cX7_ofWord 6 = .ok (.iload_n 1, 1) := by decide +kernel
theorem dX7_ofWord_7 : decode cX7_ofWord 7 = .ok (.iadd, 1) := by decide +kernel
theorem dX7_ofWord_8 : decode cX7_ofWord 8 = .ok (.ireturn, 1) := by decide +kernel
theorem dX7_inRow_0 : decode cX7_inRow 0 = .ok (.bipush 47, 2) := by decide +kernel
theorem dX7_inRow_2 : decode cX7_inRow 2 = .ok (.bipush 12, 2) := by decide +kernel
theorem dX7_inRow_4 : decode cX7_inRow 4 = .ok (.iload_n 0, 1) := by decide +kernel
theorem dX7_inRow_5 : decode cX7_inRow 5 = .ok (.imul, 1) := by decide +kernel
theorem dX7_inRow_6 : decode cX7_inRow 6 = .ok (.iadd, 1) := by decide +kernel
theorem dX7_inRow_7 : decode cX7_inRow 7 = .ok (.iload_n 1, 1) := by decide +kernel
theorem dX7_inRow_8 : decode cX7_inRow 8 = .ok (.iadd, 1) := by decide +kernel
theorem dX7_inRow_9 : decode cX7_inRow 9 = .ok (.ireturn, 1) := by decide +kernel
theorem dX7_record_0 : decode cX7_record 0 = .ok (.aload_n 0, 1) := by decide +kernel
theorem dX7_record_1 : decode cX7_record 1 = .ok (.getfield 40, 3) := by decide +kernel
theorem dX7_record_4 : decode cX7_record 4 = .ok (.bipush 6, 2) := by decide +kernel
theorem dX7_record_6 : decode cX7_record 6 = .ok (.if_icmp .ne 44, 3) := by decide +kernel
theorem dX7_record_9 : decode cX7_record 9 = .ok (.iconst 0, 1) := by decide +kernel
theorem dX7_record_10 : decode cX7_record 10 = .ok (.istore_n 1, 1) := by decide +kernel
theorem dX7_record_11 : decode cX7_record 11 = .ok (.iload_n 1, 1) := by decide +kernel
theorem dX7_record_12 : decode cX7_record 12 = .ok (.sipush 655, 3) := by decide +kernel
theorem dX7_record_15 : decode cX7_record 15 = .ok (.if_icmp .ge 25, 3) := by decide +kernel
theorem dX7_record_18 : decode cX7_record 18 = .ok (.aload_n 0, 1) := by decide +kernel
theorem dX7_record_19 : decode cX7_record 19 = .ok (.getfield 16, 3) := by decide +kernel
theorem dX7_record_22 : decode cX7_record 22 = .ok (.iload_n 1, 1) := by decide +kernel
theorem dX7_record_23 : decode cX7_record 23 = .ok (.aload_n 0, 1) := by decide +kernel
theorem dX7_record_24 : decode cX7_record 24 = .ok (.getfield 16, 3) := by decide +kernel
theorem dX7_record_27 : decode cX7_record 27 = .ok (.iload_n 1, 1) := by decide +kernel
theorem dX7_record_28 : decode cX7_record 28 = .ok (.sipush 131, 3) := by decide +kernel
theorem dX7_record_31 : decode cX7_record 31 = .ok (.iadd, 1) := by decide +kernel
theorem dX7_record_32 : decode cX7_record 32 = .ok (.iaload, 1) := by decide +kernel
theorem dX7_record_33 : decode cX7_record 33 = .ok (.iastore, 1) := by decide +kernel
theorem dX7_record_34 : decode cX7_record 34 = .ok (.iinc 1 1, 3) := by decide +kernel
theorem dX7_record_37 : decode cX7_record 37 = .ok (.goto (-26), 3) := by decide +kernel
theorem dX7_record_40 : decode cX7_record 40 = .ok (.aload_n 0, 1) := by decide +kernel
theorem dX7_record_41 : decode cX7_record 41 = .ok (.dup, 1) := by decide +kernel
theorem dX7_record_42 : decode cX7_record 42 = .ok (.getfield 40, 3) := by decide +kernel
theorem dX7_record_45 : decode cX7_record 45 = .ok (.iconst 1, 1) := by decide +kernel
theorem dX7_record_46 : decode cX7_record 46 = .ok (.isub, 1) := by decide +kernel
theorem dX7_record_47 : decode cX7_record 47 = .ok (.putfield 40, 3) := by decide +kernel
theorem dX7_record_50 : decode cX7_record 50 = .ok (.iconst 0, 1) := by decide +kernel
theorem dX7_record_51 : decode cX7_record 51 = .ok (.istore_n 1, 1) := by decide +kernel
theorem dX7_record_52 : decode cX7_record 52 = .ok (.iload_n 1, 1) := by decide +kernel
theorem dX7_record_53 : decode cX7_record 53 = .ok (.sipush 131, 3) := by decide +kernel
theorem dX7_record_56 : decode cX7_record 56 = .ok (.if_icmp .ge 30, 3) := by decide +kernel
theorem dX7_record_59 : decode cX7_record 59 = .ok (.aload_n 0, 1) := by decide +kernel
theorem dX7_record_60 : decode cX7_record 60 = .ok (.getfield 16, 3) := by decide +kernel
theorem dX7_record_63 : decode cX7_record 63 = .ok (.sipush 131, 3) := by decide +kernel
theorem dX7_record_66 : decode cX7_record 66 = .ok (.aload_n 0, 1) := by decide +kernel
theorem dX7_record_67 : decode cX7_record 67 = .ok (.getfield 40, 3) := by decide +kernel
theorem dX7_record_70 : decode cX7_record 70 = .ok (.imul, 1) := by decide +kernel
theorem dX7_record_71 : decode cX7_record 71 = .ok (.iload_n 1, 1) := by decide +kernel
theorem dX7_record_72 : decode cX7_record 72 = .ok (.iadd, 1) := by decide +kernel
theorem dX7_record_73 : decode cX7_record 73 = .ok (.aload_n 0, 1) := by decide +kernel
theorem dX7_record_74 : decode cX7_record 74 = .ok (.getfield 7, 3) := by decide +kernel
theorem dX7_record_77 : decode cX7_record 77 = .ok (.iload_n 1, 1) := by decide +kernel
theorem dX7_record_78 : decode cX7_record 78 = .ok (.iaload, 1) := by decide +kernel
theorem dX7_record_79 : decode cX7_record 79 = .ok (.iastore, 1) := by decide +kernel
theorem dX7_record_80 : decode cX7_record 80 = .ok (.iinc 1 1, 3) := by decide +kernel
theorem dX7_record_83 : decode cX7_record 83 = .ok (.goto (-31), 3) := by decide +kernel
theorem dX7_record_86 : decode cX7_record 86 = .ok (.aload_n 0, 1) := by decide +kernel
theorem dX7_record_87 : decode cX7_record 87 = .ok (.dup, 1) := by decide +kernel
theorem dX7_record_88 : decode cX7_record 88 = .ok (.getfield 40, 3) := by decide +kernel
theorem dX7_record_91 : decode cX7_record 91 = .ok (.iconst 1, 1) := by decide +kernel
theorem dX7_record_92 : decode cX7_record 92 = .ok (.iadd, 1) := by decide +kernel
theorem dX7_record_93 : decode cX7_record 93 = .ok (.putfield 40, 3) := by decide +kernel
theorem dX7_record_96 : decode cX7_record 96 = .ok (.return_, 1) := by decide +kernel
theorem dX7_putAside_0 : decode cX7_putAside 0 = .ok (.iconst 0, 1) := by decide +kernel
theorem dX7_putAside_1 : decode cX7_putAside 1 = .ok (.istore_n 1, 1) := by decide +kernel
theorem dX7_putAside_2 : decode cX7_putAside 2 = .ok (.iload_n 1, 1) := by decide +kernel
theorem dX7_putAside_3 : decode cX7_putAside 3 = .ok (.sipush 131, 3) := by decide +kernel
theorem dX7_putAside_6 : decode cX7_putAside 6 = .ok (.if_icmp .ge 21, 3) := by decide +kernel
theorem dX7_putAside_9 : decode cX7_putAside 9 = .ok (.aload_n 0, 1) := by decide +kernel
theorem dX7_putAside_10 : decode cX7_putAside 10 = .ok (.getfield 13, 3) := by decide +kernel
theorem dX7_putAside_13 : decode cX7_putAside 13 = .ok (.iload_n 1, 1) := by decide +kernel
theorem dX7_putAside_14 : decode cX7_putAside 14 = .ok (.aload_n 0, 1) := by decide +kernel
theorem dX7_putAside_15 : decode cX7_putAside 15 = .ok (.getfield 7, 3) := by decide +kernel
theorem dX7_putAside_18 : decode cX7_putAside 18 = .ok (.iload_n 1, 1) := by decide +kernel
theorem dX7_putAside_19 : decode cX7_putAside 19 = .ok (.iaload, 1) := by decide +kernel
theorem dX7_putAside_20 : decode cX7_putAside 20 = .ok (.iastore, 1) := by decide +kernel
theorem dX7_putAside_21 : decode cX7_putAside 21 = .ok (.iinc 1 1, 3) := by decide +kernel
theorem dX7_putAside_24 : decode cX7_putAside 24 = .ok (.goto (-22), 3) := by decide +kernel
theorem dX7_putAside_27 : decode cX7_putAside 27 = .ok (.return_, 1) := by decide +kernel
theorem dX7_putBack_0 : decode cX7_putBack 0 = .ok (.iconst 0, 1) := by decide +kernel
theorem dX7_putBack_1 : decode cX7_putBack 1 = .ok (.istore_n 1, 1) := by decide +kernel
theorem dX7_putBack_2 : decode cX7_putBack 2 = .ok (.iload_n 1, 1) := by decide +kernel
theorem dX7_putBack_3 : decode cX7_putBack 3 = .ok (.sipush 131, 3) := by decide +kernel
theorem dX7_putBack_6 : decode cX7_putBack 6 = .ok (.if_icmp .ge 21, 3) := by decide +kernel
theorem dX7_putBack_9 : decode cX7_putBack 9 = .ok (.aload_n 0, 1) := by decide +kernel
theorem dX7_putBack_10 : decode cX7_putBack 10 = .ok (.getfield 7, 3) := by decide +kernel
theorem dX7_putBack_13 : decode cX7_putBack 13 = .ok (.iload_n 1, 1) := by decide +kernel
theorem dX7_putBack_14 : decode cX7_putBack 14 = .ok (.aload_n 0, 1) := by decide +kernel
theorem dX7_putBack_15 : decode cX7_putBack 15 = .ok (.getfield 13, 3) := by decide +kernel
theorem dX7_putBack_18 : decode cX7_putBack 18 = .ok (.iload_n 1, 1) := by decide +kernel
theorem dX7_putBack_19 : decode cX7_putBack 19 = .ok (.iaload, 1) := by decide +kernel
theorem dX7_putBack_20 : decode cX7_putBack 20 = .ok (.iastore, 1) := by decide +kernel
theorem dX7_putBack_21 : decode cX7_putBack 21 = .ok (.iinc 1 1, 3) := by decide +kernel
theorem dX7_putBack_24 : decode cX7_putBack 24 = .ok (.goto (-22), 3) := by decide +kernel
theorem dX7_putBack_27 : decode cX7_putBack 27 = .ok (.return_, 1) := by decide +kernel
set_option maxRecDepth 20000 in
theorem ggX7_level_X7_ofStore : GoodIn wsX7_level wsX7_ofStore := goodIn_r _ [5] (by decide +kernel) (by decide +kernel)
set_option maxRecDepth 20000 in
theorem gX7_level_X7_ofStore : GoodIn wsX7_level (va_wsS RX7 29 yX7_ofStore wsX7_ofStore) := goodIn_app (goodIn_of _ (by decide +kernel)) ggX7_level_X7_ofStore
theorem dX7_level_0 : decode cX7_level 0 = .ok (.aload_n 0, 1) := by decide +kernel
theorem dX7_level_1 : decode cX7_level 1 = .ok (.getfield 7, 3) := by decide +kernel
theorem dX7_level_4 : decode cX7_level 4 = .ok (.iload_n 1, 1) := by decide +kernel
theorem dX7_level_5 : decode cX7_level 5 = .ok (.iconst 2, 1) := by decide +kernel
theorem dX7_level_6 : decode cX7_level 6 = .ok (.invokestatic 29, 3) := by decide +kernel
theorem dX7_level_9 : decode cX7_level 9 = .ok (.iaload, 1) := by decide +kernel
theorem dX7_level_10 : decode cX7_level 10 = .ok (.istore_n 3, 1) := by decide +kernel
theorem dX7_level_11 : decode cX7_level 11 = .ok (.iload_n 2, 1) := by decide +kernel
theorem dX7_level_12 : decode cX7_level 12 = .ok (.iload_n 3, 1) := by decide +kernel
theorem dX7_level_13 : decode cX7_level 13 = .ok (.irem, 1) := by decide +kernel
theorem dX7_level_14 : decode cX7_level 14 = .ok (.istore 4, 2) := by decide +kernel
theorem dX7_level_16 : decode cX7_level 16 = .ok (.iload 4, 2) := by decide +kernel
theorem dX7_level_18 : decode cX7_level 18 = .ok (.iload_n 3, 1) := by decide +kernel
theorem dX7_level_19 : decode cX7_level 19 = .ok (.iload 4, 2) := by decide +kernel
theorem dX7_level_21 : decode cX7_level 21 = .ok (.isub, 1) := by decide +kernel
theorem dX7_level_22 : decode cX7_level 22 = .ok (.if_icmp .ge 8, 3) := by decide +kernel
theorem dX7_level_25 : decode cX7_level 25 = .ok (.iload 4, 2) := by decide +kernel
theorem dX7_level_27 : decode cX7_level 27 = .ok (.goto 7, 3) := by decide +kernel
theorem dX7_level_30 : decode cX7_level 30 = .ok (.iload_n 3, 1) := by decide +kernel
theorem dX7_level_31 : decode cX7_level 31 = .ok (.iload 4, 2) := by decide +kernel
theorem dX7_level_33 : decode cX7_level 33 = .ok (.isub, 1) := by decide +kernel
theorem dX7_level_34 : decode cX7_level 34 = .ok (.istore 5, 2) := by decide +kernel
theorem dX7_level_36 : decode cX7_level 36 = .ok (.aload_n 0, 1) := by decide +kernel
theorem dX7_level_37 : decode cX7_level 37 = .ok (.getfield 7, 3) := by decide +kernel
theorem dX7_level_40 : decode cX7_level 40 = .ok (.iload_n 1, 1) := by decide +kernel
theorem dX7_level_41 : decode cX7_level 41 = .ok (.iconst 0, 1) := by decide +kernel
theorem dX7_level_42 : decode cX7_level 42 = .ok (.invokestatic 29, 3) := by decide +kernel
theorem dX7_level_45 : decode cX7_level 45 = .ok (.iaload, 1) := by decide +kernel
theorem dX7_level_46 : decode cX7_level 46 = .ok (.aload_n 0, 1) := by decide +kernel
theorem dX7_level_47 : decode cX7_level 47 = .ok (.getfield 7, 3) := by decide +kernel
theorem dX7_level_50 : decode cX7_level 50 = .ok (.iload_n 1, 1) := by decide +kernel
theorem dX7_level_51 : decode cX7_level 51 = .ok (.iconst 1, 1) := by decide +kernel
theorem dX7_level_52 : decode cX7_level 52 = .ok (.invokestatic 29, 3) := by decide +kernel
theorem dX7_level_55 : decode cX7_level 55 = .ok (.iaload, 1) := by decide +kernel
theorem dX7_level_56 : decode cX7_level 56 = .ok (.isub, 1) := by decide +kernel
theorem dX7_level_57 : decode cX7_level 57 = .ok (.iconst 4, 1) := by decide +kernel
theorem dX7_level_58 : decode cX7_level 58 = .ok (.aload_n 0, 1) := by decide +kernel
theorem dX7_level_59 : decode cX7_level 59 = .ok (.getfield 7, 3) := by decide +kernel
theorem dX7_level_62 : decode cX7_level 62 = .ok (.iload_n 1, 1) := by decide +kernel
theorem dX7_level_63 : decode cX7_level 63 = .ok (.iconst 1, 1) := by decide +kernel
theorem dX7_level_64 : decode cX7_level 64 = .ok (.invokestatic 29, 3) := by decide +kernel
theorem dX7_level_67 : decode cX7_level 67 = .ok (.iaload, 1) := by decide +kernel
theorem dX7_level_68 : decode cX7_level 68 = .ok (.imul, 1) := by decide +kernel
theorem dX7_level_69 : decode cX7_level 69 = .ok (.iload 5, 2) := by decide +kernel
theorem dX7_level_71 : decode cX7_level 71 = .ok (.imul, 1) := by decide +kernel
theorem dX7_level_72 : decode cX7_level 72 = .ok (.iload_n 3, 1) := by decide +kernel
theorem dX7_level_73 : decode cX7_level 73 = .ok (.idiv, 1) := by decide +kernel
theorem dX7_level_74 : decode cX7_level 74 = .ok (.iadd, 1) := by decide +kernel
theorem dX7_level_75 : decode cX7_level 75 = .ok (.ireturn, 1) := by decide +kernel
set_option maxRecDepth 20000 in
theorem ggX7_off_X7_level : GoodIn wsX7_off wsX7_level := goodIn_r _ [6, 1, 7, 8, 5, 9, 10, 11, 12, 13, 14, 15, 16, 17] (by decide +kernel) (by decide +kernel)
set_option maxRecDepth 20000 in
theorem gX7_off_X7_level : GoodIn wsX7_off (wsV RX7 44 RX7 yX7_level wsX7_level) := goodIn_app (goodIn_of _ (by decide +kernel)) ggX7_off_X7_level
set_option maxRecDepth 20000 in
theorem ggX7_off_X7_ofStore : GoodIn wsX7_off wsX7_ofStore := goodIn_r _ [9] (by decide +kernel) (by decide +kernel)
set_option maxRecDepth 20000 in
theorem gX7_off_X7_ofStore : GoodIn wsX7_off (va_wsS RX7 29 yX7_ofStore wsX7_ofStore) := goodIn_app (goodIn_of _ (by decide +kernel)) ggX7_off_X7_ofStore
theorem dX7_off_0 : decode cX7_off 0 = .ok (.aload_n 0, 1) := by decide +kernel
theorem dX7_off_1 : decode cX7_off 1 = .ok (.iconst 0, 1) := by decide +kernel
theorem dX7_off_2 : decode cX7_off 2 = .ok (.iload_n 1, 1) := by decide +kernel
theorem dX7_off_3 : decode cX7_off 3 = .ok (.invokevirtual 44, 3) := by decide +kernel
theorem dX7_off_6 : decode cX7_off 6 = .ok (.aload_n 0, 1) := by decide +kernel
theorem dX7_off_7 : decode cX7_off 7 = .ok (.getfield 7, 3) := by decide +kernel
theorem dX7_off_10 : decode cX7_off 10 = .ok (.iconst 0, 1) := by decide +kernel
theorem dX7_off_11 : decode cX7_off 11 = .ok (.iconst 3, 1) := by decide +kernel
theorem dX7_off_12 : decode cX7_off 12 = .ok (.invokestatic 29, 3) := by decide +kernel
theorem dX7_off_15 : decode cX7_off 15 = .ok (.iaload, 1) := by decide +kernel
theorem dX7_off_16 : decode cX7_off 16 = .ok (.iadd, 1) := by decide +kernel
theorem dX7_off_17 : decode cX7_off 17 = .ok (.istore_n 2, 1) := by decide +kernel
theorem dX7_off_18 : decode cX7_off 18 = .ok (.aload_n 0, 1) := by decide +kernel
theorem dX7_off_19 : decode cX7_off 19 = .ok (.iconst 1, 1) := by decide +kernel
theorem dX7_off_20 : decode cX7_off 20 = .ok (.iload_n 1, 1) := by decide +kernel
theorem dX7_off_21 : decode cX7_off 21 = .ok (.invokevirtual 44, 3) := by decide +kernel
theorem dX7_off_24 : decode cX7_off 24 = .ok (.aload_n 0, 1) := by decide +kernel
theorem dX7_off_25 : decode cX7_off 25 = .ok (.getfield 7, 3) := by decide +kernel
theorem dX7_off_28 : decode cX7_off 28 = .ok (.iconst 1, 1) := by decide +kernel
theorem dX7_off_29 : decode cX7_off 29 = .ok (.iconst 3, 1) := by decide +kernel
theorem dX7_off_30 : decode cX7_off 30 = .ok (.invokestatic 29, 3) := by decide +kernel
theorem dX7_off_33 : decode cX7_off 33 = .ok (.iaload, 1) := by decide +kernel
theorem dX7_off_34 : decode cX7_off 34 = .ok (.iadd, 1) := by decide +kernel
theorem dX7_off_35 : decode cX7_off 35 = .ok (.istore_n 3, 1) := by decide +kernel
theorem dX7_off_36 : decode cX7_off 36 = .ok (.iload_n 2, 1) := by decide +kernel
theorem dX7_off_37 : decode cX7_off 37 = .ok (.iload_n 3, 1) := by decide +kernel
theorem dX7_off_38 : decode cX7_off 38 = .ok (.if_icmp .le 9, 3) := by decide +kernel
theorem dX7_off_41 : decode cX7_off 41 = .ok (.iload_n 2, 1) := by decide +kernel
theorem dX7_off_42 : decode cX7_off 42 = .ok (.iload_n 3, 1) := by decide +kernel
theorem dX7_off_43 : decode cX7_off 43 = .ok (.isub, 1) := by decide +kernel
theorem dX7_off_44 : decode cX7_off 44 = .ok (.goto 6, 3) := by decide +kernel
theorem dX7_off_47 : decode cX7_off 47 = .ok (.iload_n 3, 1) := by decide +kernel
theorem dX7_off_48 : decode cX7_off 48 = .ok (.iload_n 2, 1) := by decide +kernel
theorem dX7_off_49 : decode cX7_off 49 = .ok (.isub, 1) := by decide +kernel
theorem dX7_off_50 : decode cX7_off 50 = .ok (.ireturn, 1) := by decide +kernel
set_option maxRecDepth 20000 in
theorem ggX7_isOpen_X7_ofGate : GoodIn wsX7_isOpen wsX7_ofGate := goodIn_r _ [5] (by decide +kernel) (by decide +kernel)
set_option maxRecDepth 20000 in
theorem gX7_isOpen_X7_ofGate : GoodIn wsX7_isOpen (va_wsS RX7 33 yX7_ofGate wsX7_ofGate) := goodIn_app (goodIn_of _ (by decide +kernel)) ggX7_isOpen_X7_ofGate
set_option maxRecDepth 20000 in
theorem ggX7_isOpen_X7_off : GoodIn wsX7_isOpen wsX7_off := goodIn_r _ [9, 1, 10, 11, 12, 4, 13, 14, 15, 16, 17, 18, 19, 20, 21, 22, 23, 24] (by decide +kernel) (by decide +kernel)
set_option maxRecDepth 20000 in
theorem gX7_isOpen_X7_off : GoodIn wsX7_isOpen (wsV RX7 47 RX7 yX7_off wsX7_off) := goodIn_app (goodIn_of _ (by decide +kernel)) ggX7_isOpen_X7_off
theorem dX7_isOpen_0 : decode cX7_isOpen 0 = .ok (.aload_n 0, 1) := by decide +kernel
theorem dX7_isOpen_1 : decode cX7_isOpen 1 = .ok (.getfield 7, 3) := by decide +kernel
theorem dX7_isOpen_4 : decode cX7_isOpen 4 = .ok (.iload_n 1, 1) := by decide +kernel
theorem dX7_isOpen_5 : decode cX7_isOpen 5 = .ok (.iconst 3, 1) := by decide +kernel
theorem dX7_isOpen_6 : decode cX7_isOpen 6 = .ok (.invokestatic 33, 3) := by decide +kernel
theorem dX7_isOpen_9 : decode cX7_isOpen 9 = .ok (.iaload, 1) := by decide +kernel
theorem dX7_isOpen_10 : decode cX7_isOpen 10 = .ok (.ifCond .ne 25, 3) := by decide +kernel
theorem dX7_isOpen_13 : decode cX7_isOpen 13 = .ok (.aload_n 0, 1) := by decide +kernel
theorem dX7_isOpen_14 : decode cX7_isOpen 14 = .ok (.iload_n 2, 1) := by decide +kernel
theorem dX7_isOpen_15 : decode cX7_isOpen 15 = .ok (.invokevirtual 47, 3) := by decide +kernel
theorem dX7_isOpen_18 : decode cX7_isOpen 18 = .ok (.aload_n 0, 1) := by decide +kernel
theorem dX7_isOpen_19 : decode cX7_isOpen 19 = .ok (.getfield 7, 3) := by decide +kernel
theorem dX7_isOpen_22 : decode cX7_isOpen 22 = .ok (.iload_n 1, 1) := by decide +kernel
theorem dX7_isOpen_23 : decode cX7_isOpen 23 = .ok (.iconst 1, 1) := by decide +kernel
theorem dX7_isOpen_24 : decode cX7_isOpen 24 = .ok (.invokestatic 33, 3) := by decide +kernel
theorem dX7_isOpen_27 : decode cX7_isOpen 27 = .ok (.iaload, 1) := by decide +kernel
theorem dX7_isOpen_28 : decode cX7_isOpen 28 = .ok (.if_icmp .gt 7, 3) := by decide +kernel
theorem dX7_isOpen_31 : decode cX7_isOpen 31 = .ok (.iconst 1, 1) := by decide +kernel
theorem dX7_isOpen_32 : decode cX7_isOpen 32 = .ok (.goto 4, 3) := by decide +kernel
theorem dX7_isOpen_35 : decode cX7_isOpen 35 = .ok (.iconst 0, 1) := by decide +kernel
theorem dX7_isOpen_36 : decode cX7_isOpen 36 = .ok (.ireturn, 1) := by decide +kernel
set_option maxRecDepth 20000 in
theorem ggX7_openNow_X7_isOpen : GoodIn wsX7_openNow wsX7_isOpen := goodIn_r _ [6, 1, 7, 8, 5, 9, 10, 11, 12, 13, 14, 15, 16, 17, 18, 19, 20, 21, 22, 23, 24, 25, 26, 27, 28] (by decide +kernel) (by decide +kernel)
set_option maxRecDepth 20000 in
theorem gX7_openNow_X7_isOpen : GoodIn wsX7_openNow (wsV RX7 51 RX7 yX7_isOpen wsX7_isOpen) := goodIn_app (goodIn_of _ (by decide +kernel)) ggX7_openNow_X7_isOpen
theorem dX7_openNow_0 : decode cX7_openNow 0 = .ok (.iconst 0, 1) := by decide +kernel
theorem dX7_openNow_1 : decode cX7_openNow 1 = .ok (.istore_n 1, 1) := by decide +kernel
theorem dX7_openNow_2 : decode cX7_openNow 2 = .ok (.iconst 0, 1) := by decide +kernel
theorem dX7_openNow_3 : decode cX7_openNow 3 = .ok (.istore_n 2, 1) := by decide +kernel
theorem dX7_openNow_4 : decode cX7_openNow 4 = .ok (.iload_n 2, 1) := by decide +kernel
theorem dX7_openNow_5 : decode cX7_openNow 5 = .ok (.iconst 4, 1) := by decide +kernel
theorem dX7_openNow_6 : decode cX7_openNow 6 = .ok (.if_icmp .ge 33, 3) := by decide +kernel
theorem dX7_openNow_9 : decode cX7_openNow 9 = .ok (.iload_n 1, 1) := by decide +kernel
theorem dX7_openNow_10 : decode cX7_openNow 10 = .ok (.aload_n 0, 1) := by decide +kernel
theorem dX7_openNow_11 : decode cX7_openNow 11 = .ok (.iload_n 2, 1) := by decide +kernel
theorem dX7_openNow_12 : decode cX7_openNow 12 = .ok (.aload_n 0, 1) := by decide +kernel
theorem dX7_openNow_13 : decode cX7_openNow 13 = .ok (.getfield 7, 3) := by decide +kernel
theorem dX7_openNow_16 : decode cX7_openNow 16 = .ok (.iconst 0, 1) := by decide +kernel
theorem dX7_openNow_17 : decode cX7_openNow 17 = .ok (.iaload, 1) := by decide +kernel
theorem dX7_openNow_18 : decode cX7_openNow 18 = .ok (.invokevirtual 51, 3) := by decide +kernel
theorem dX7_openNow_21 : decode cX7_openNow 21 = .ok (.ifCond .eq 9, 3) := by decide +kernel
theorem dX7_openNow_24 : decode cX7_openNow 24 = .ok (.iconst 1, 1) := by decide +kernel
theorem dX7_openNow_25 : decode cX7_openNow 25 = .ok (.iload_n 2, 1) := by decide +kernel
theorem dX7_openNow_26 : decode cX7_openNow 26 = .ok (.ishl, 1) := by decide +kernel
theorem dX7_openNow_27 : decode cX7_openNow 27 = .ok (.goto 4, 3) := by decide +kernel
theorem dX7_openNow_30 : decode cX7_openNow 30 = .ok (.iconst 0, 1) := by decide +kernel
theorem dX7_openNow_31 : decode cX7_openNow 31 = .ok (.ior, 1) := by decide +kernel
theorem dX7_openNow_32 : decode cX7_openNow 32 = .ok (.istore_n 1, 1) := by decide +kernel
theorem dX7_openNow_33 : decode cX7_openNow 33 = .ok (.iinc 2 1, 3) := by decide +kernel
theorem dX7_openNow_36 : decode cX7_openNow 36 = .ok (.goto (-32), 3) := by decide +kernel
theorem dX7_openNow_39 : decode cX7_openNow 39 = .ok (.iload_n 1, 1) := by decide +kernel
theorem dX7_openNow_40 : decode cX7_openNow 40 = .ok (.ireturn, 1) := by decide +kernel
set_option maxRecDepth 20000 in
theorem ggX7_lettersOf_X7_ofWord : GoodIn wsX7_lettersOf wsX7_ofWord := goodIn_r _ [5] (by decide +kernel) (by decide +kernel)
set_option maxRecDepth 20000 in
theorem gX7_lettersOf_X7_ofWord : GoodIn wsX7_lettersOf (va_wsS RX7 55 yX7_ofWord wsX7_ofWord) := goodIn_app (goodIn_of _ (by decide +kernel)) ggX7_lettersOf_X7_ofWord
theorem dX7_lettersOf_0 : decode cX7_lettersOf 0 = .ok (.iconst 0, 1) := by decide +kernel
theorem dX7_lettersOf_1 : decode cX7_lettersOf 1 = .ok (.istore_n 2, 1) := by decide +kernel
theorem dX7_lettersOf_2 : decode cX7_lettersOf 2 = .ok (.aload_n 0, 1) := by decide +kernel
theorem dX7_lettersOf_3 : decode cX7_lettersOf 3 = .ok (.getfield 7, 3) := by decide +kernel
theorem dX7_lettersOf_6 : decode cX7_lettersOf 6 = .ok (.iload_n 1, 1) := by decide +kernel
theorem dX7_lettersOf_7 : decode cX7_lettersOf 7 = .ok (.iconst 0, 1) := by decide +kernel
theorem dX7_lettersOf_8 : decode cX7_lettersOf 8 = .ok (.invokestatic 55, 3) := by decide +kernel
theorem dX7_lettersOf_11 : decode cX7_lettersOf 11 = .ok (.iaload, 1) := by decide +kernel
theorem dX7_lettersOf_12 : decode cX7_lettersOf 12 = .ok (.istore_n 3, 1) := by decide +kernel
theorem dX7_lettersOf_13 : decode cX7_lettersOf 13 = .ok (.iload_n 3, 1) := by decide +kernel
theorem dX7_lettersOf_14 : decode cX7_lettersOf 14 = .ok (.ifCond .le 14, 3) := by decide +kernel
theorem dX7_lettersOf_17 : decode cX7_lettersOf 17 = .ok (.iinc 2 1, 3) := by decide +kernel
theorem dX7_lettersOf_20 : decode cX7_lettersOf 20 = .ok (.iload_n 3, 1) := by decide +kernel
theorem dX7_lettersOf_21 : decode cX7_lettersOf 21 = .ok (.bipush 27, 2) := by decide +kernel
theorem dX7_lettersOf_23 : decode cX7_lettersOf 23 = .ok (.idiv, 1) := by decide +kernel
theorem dX7_lettersOf_24 : decode cX7_lettersOf 24 = .ok (.istore_n 3, 1) := by decide +kernel
theorem dX7_lettersOf_25 : decode cX7_lettersOf 25 = .ok (.goto (-12), 3) := by decide +kernel
theorem dX7_lettersOf_28 : decode cX7_lettersOf 28 = .ok (.iload_n 2, 1) := by decide +kernel
theorem dX7_lettersOf_29 : decode cX7_lettersOf 29 = .ok (.ireturn, 1) := by decide +kernel
set_option maxRecDepth 20000 in
theorem ggX7_letterOf_X7_ofWord : GoodIn wsX7_letterOf wsX7_ofWord := goodIn_r _ [5] (by decide +kernel) (by decide +kernel)
set_option maxRecDepth 20000 in
theorem gX7_letterOf_X7_ofWord : GoodIn wsX7_letterOf (va_wsS RX7 55 yX7_ofWord wsX7_ofWord) := goodIn_app (goodIn_of _ (by decide +kernel)) ggX7_letterOf_X7_ofWord
set_option maxRecDepth 20000 in
theorem ggX7_letterOf_X7_lettersOf : GoodIn wsX7_letterOf wsX7_lettersOf := goodIn_r _ [9, 1, 2, 3, 4, 5, 13, 14, 15, 16, 17, 18, 19, 20] (by decide +kernel) (by decide +kernel)
set_option maxRecDepth 20000 in
theorem gX7_letterOf_X7_lettersOf : GoodIn wsX7_letterOf (wsV RX7 58 RX7 yX7_lettersOf wsX7_lettersOf) := goodIn_app (goodIn_of _ (by decide +kernel)) ggX7_letterOf_X7_lettersOf
set_option maxRecDepth 20000 in
theorem ggX7_letterOf_X7_in : GoodIn wsX7_letterOf wsX7_in := goodIn_r _ [12] (by decide +kernel) (by decide +kernel)
set_option maxRecDepth 20000 in
theorem gX7_letterOf_X7_in : GoodIn wsX7_letterOf (va_wsS RX7 36 yX7_in wsX7_in) := goodIn_app (goodIn_of _ (by decide +kernel)) ggX7_letterOf_X7_in
theorem dX7_letterOf_0 : decode cX7_letterOf 0 = .ok (.aload_n 0, 1) := by decide +kernel
theorem dX7_letterOf_1 : decode cX7_letterOf 1 = .ok (.getfield 7, 3) := by decide +kernel
theorem dX7_letterOf_4 : decode cX7_letterOf 4 = .ok (.iload_n 1, 1) := by decide +kernel
theorem dX7_letterOf_5 : decode cX7_letterOf 5 = .ok (.iconst 0, 1) := by decide +kernel
theorem dX7_letterOf_6 : decode cX7_letterOf 6 = .ok (.invokestatic 55, 3) := by decide +kernel
theorem dX7_letterOf_9 : decode cX7_letterOf 9 = .ok (.iaload, 1) := by decide +kernel
theorem dX7_letterOf_10 : decode cX7_letterOf 10 = .ok (.istore_n 3, 1) := by decide +kernel
theorem dX7_letterOf_11 : decode cX7_letterOf 11 = .ok (.aload_n 0, 1) := by decide +kernel
theorem dX7_letterOf_12 : decode cX7_letterOf 12 = .ok (.iload_n 1, 1) := by decide +kernel
theorem dX7_letterOf_13 : decode cX7_letterOf 13 = .ok (.invokevirtual 58, 3) := by decide +kernel
theorem dX7_letterOf_16 : decode cX7_letterOf 16 = .ok (.iconst 1, 1) := by decide +kernel
theorem dX7_letterOf_17 : decode cX7_letterOf 17 = .ok (.isub, 1) := by decide +kernel
theorem dX7_letterOf_18 : decode cX7_letterOf 18 = .ok (.istore 4, 2) := by decide +kernel
theorem dX7_letterOf_20 : decode cX7_letterOf 20 = .ok (.iload 4, 2) := by decide +kernel
theorem dX7_letterOf_22 : decode cX7_letterOf 22 = .ok (.iload_n 2, 1) := by decide +kernel
theorem dX7_letterOf_23 : decode cX7_letterOf 23 = .ok (.if_icmp .le 14, 3) := by decide +kernel
theorem dX7_letterOf_26 : decode cX7_letterOf 26 = .ok (.iload_n 3, 1) := by decide +kernel
theorem dX7_letterOf_27 : decode cX7_letterOf 27 = .ok (.bipush 27, 2) := by decide +kernel
theorem dX7_letterOf_29 : decode cX7_letterOf 29 = .ok (.idiv, 1) := by decide +kernel
theorem dX7_letterOf_30 : decode cX7_letterOf 30 = .ok (.istore_n 3, 1) := by decide +kernel
theorem dX7_letterOf_31 : decode cX7_letterOf 31 = .ok (.iinc 4 (-1), 3) := by decide +kernel
theorem dX7_letterOf_34 : decode cX7_letterOf 34 = .ok (.goto (-14), 3) := by decide +kernel
theorem dX7_letterOf_37 : decode cX7_letterOf 37 = .ok (.iload_n 2, 1) := by decide +kernel
theorem dX7_letterOf_38 : decode cX7_letterOf 38 = .ok (.iconst 0, 1) := by decide +kernel
theorem dX7_letterOf_39 : decode cX7_letterOf 39 = .ok (.aload_n 0, 1) := by decide +kernel
theorem dX7_letterOf_40 : decode cX7_letterOf 40 = .ok (.iload_n 1, 1) := by decide +kernel
theorem dX7_letterOf_41 : decode cX7_letterOf 41 = .ok (.invokevirtual 58, 3) := by decide +kernel
theorem dX7_letterOf_44 : decode cX7_letterOf 44 = .ok (.iconst 1, 1) := by decide +kernel
theorem dX7_letterOf_45 : decode cX7_letterOf 45 = .ok (.isub, 1) := by decide +kernel
theorem dX7_letterOf_46 : decode cX7_letterOf 46 = .ok (.invokestatic 36, 3) := by decide +kernel
theorem dX7_letterOf_49 : decode cX7_letterOf 49 = .ok (.ifCond .eq 13, 3) := by decide +kernel
theorem dX7_letterOf_52 : decode cX7_letterOf 52 = .ok (.bipush 96, 2) := by decide +kernel
theorem dX7_letterOf_54 : decode cX7_letterOf 54 = .ok (.iload_n 3, 1) := by decide +kernel
theorem dX7_letterOf_55 : decode cX7_letterOf 55 = .ok (.bipush 27, 2) := by decide +kernel
theorem dX7_letterOf_57 : decode cX7_letterOf 57 = .ok (.irem, 1) := by decide +kernel
theorem dX7_letterOf_58 : decode cX7_letterOf 58 = .ok (.iadd, 1) := by decide +kernel
theorem dX7_letterOf_59 : decode cX7_letterOf 59 = .ok (.goto 6, 3) := by decide +kernel
theorem dX7_letterOf_62 : decode cX7_letterOf 62 = .ok (.sipush (-1006), 3) := by decide +kernel
theorem dX7_letterOf_65 : decode cX7_letterOf 65 = .ok (.ireturn, 1) := by decide +kernel
set_option maxRecDepth 20000 in
theorem ggX7_hasPassed_X7_ofWord : GoodIn wsX7_hasPassed wsX7_ofWord := goodIn_r _ [5] (by decide +kernel) (by decide +kernel)
set_option maxRecDepth 20000 in
theorem gX7_hasPassed_X7_ofWord : GoodIn wsX7_hasPassed (va_wsS RX7 55 yX7_ofWord wsX7_ofWord) := goodIn_app (goodIn_of _ (by decide +kernel)) ggX7_hasPassed_X7_ofWord
theorem dX7_hasPassed_0 : decode cX7_hasPassed 0 = .ok (.aload_n 0, 1) := by decide +kernel
theorem dX7_hasPassed_1 : decode cX7_hasPassed 1 = .ok (.getfield 7, 3) := by decide +kernel
theorem dX7_hasPassed_4 : decode cX7_hasPassed 4 = .ok (.iload_n 1, 1) := by decide +kernel
theorem dX7_hasPassed_5 : decode cX7_hasPassed 5 = .ok (.iconst 1, 1) := by decide +kernel
theorem dX7_hasPassed_6 : decode cX7_hasPassed 6 = .ok (.invokestatic 55, 3) := by decide +kernel
theorem dX7_hasPassed_9 : decode cX7_hasPassed 9 = .ok (.iaload, 1) := by decide +kernel
theorem dX7_hasPassed_10 : decode cX7_hasPassed 10 = .ok (.iconst 1, 1) := by decide +kernel
theorem dX7_hasPassed_11 : decode cX7_hasPassed 11 = .ok (.if_icmp .ne 7, 3) := by decide +kernel
theorem dX7_hasPassed_14 : decode cX7_hasPassed 14 = .ok (.iconst 1, 1) := by decide +kernel
theorem dX7_hasPassed_15 : decode cX7_hasPassed 15 = .ok (.goto 4, 3) := by decide +kernel
theorem dX7_hasPassed_18 : decode cX7_hasPassed 18 = .ok (.iconst 0, 1) := by decide +kernel
theorem dX7_hasPassed_19 : decode cX7_hasPassed 19 = .ok (.ireturn, 1) := by decide +kernel
set_option maxRecDepth 20000 in
theorem ggX7_comes_X7_inRow : GoodIn wsX7_comes wsX7_inRow := goodIn_r _ [5] (by decide +kernel) (by decide +kernel)
set_option maxRecDepth 20000 in
theorem gX7_comes_X7_inRow : GoodIn wsX7_comes (va_wsS RX7 61 yX7_inRow wsX7_inRow) := goodIn_app (goodIn_of _ (by decide +kernel)) ggX7_comes_X7_inRow
theorem dX7_comes_0 : decode cX7_comes 0 = .ok (.aload_n 0, 1) := by decide +kernel
theorem dX7_comes_1 : decode cX7_comes 1 = .ok (.getfield 7, 3) := by decide +kernel
theorem dX7_comes_4 : decode cX7_comes 4 = .ok (.iload_n 1, 1) := by decide +kernel
theorem dX7_comes_5 : decode cX7_comes 5 = .ok (.aload_n 0, 1) := by decide +kernel
theorem dX7_comes_6 : decode cX7_comes 6 = .ok (.getfield 7, 3) := by decide +kernel
theorem dX7_comes_9 : decode cX7_comes 9 = .ok (.bipush 45, 2) := by decide +kernel
theorem dX7_comes_11 : decode cX7_comes 11 = .ok (.iload_n 1, 1) := by decide +kernel
theorem dX7_comes_12 : decode cX7_comes 12 = .ok (.iadd, 1) := by decide +kernel
theorem dX7_comes_13 : decode cX7_comes 13 = .ok (.iaload, 1) := by decide +kernel
theorem dX7_comes_14 : decode cX7_comes 14 = .ok (.invokestatic 61, 3) := by decide +kernel
theorem dX7_comes_17 : decode cX7_comes 17 = .ok (.iload_n 2, 1) := by decide +kernel
theorem dX7_comes_18 : decode cX7_comes 18 = .ok (.iastore, 1) := by decide +kernel
theorem dX7_comes_19 : decode cX7_comes 19 = .ok (.aload_n 0, 1) := by decide +kernel
theorem dX7_comes_20 : decode cX7_comes 20 = .ok (.getfield 7, 3) := by decide +kernel
theorem dX7_comes_23 : decode cX7_comes 23 = .ok (.bipush 45, 2) := by decide +kernel
theorem dX7_comes_25 : decode cX7_comes 25 = .ok (.iload_n 1, 1) := by decide +kernel
theorem dX7_comes_26 : decode cX7_comes 26 = .ok (.iadd, 1) := by decide +kernel
theorem dX7_comes_27 : decode cX7_comes 27 = .ok (.dup2, 1) := by decide +kernel
theorem dX7_comes_28 : decode cX7_comes 28 = .ok (.iaload, 1) := by decide +kernel
theorem dX7_comes_29 : decode cX7_comes 29 = .ok (.iconst 1, 1) := by decide +kernel
theorem dX7_comes_30 : decode cX7_comes 30 = .ok (.iadd, 1) := by decide +kernel
theorem dX7_comes_31 : decode cX7_comes 31 = .ok (.iastore, 1) := by decide +kernel
theorem dX7_comes_32 : decode cX7_comes 32 = .ok (.return_, 1) := by decide +kernel
set_option maxRecDepth 20000 in
theorem ggX7_goesBack_X7_inRow : GoodIn wsX7_goesBack wsX7_inRow := goodIn_r _ [5] (by decide +kernel) (by decide +kernel)
set_option maxRecDepth 20000 in
theorem gX7_goesBack_X7_inRow : GoodIn wsX7_goesBack (va_wsS RX7 61 yX7_inRow wsX7_inRow) := goodIn_app (goodIn_of _ (by decide +kernel)) ggX7_goesBack_X7_inRow
theorem dX7_goesBack_0 : decode cX7_goesBack 0 = .ok (.aload_n 0, 1) := by decide +kernel
theorem dX7_goesBack_1 : decode cX7_goesBack 1 = .ok (.getfield 7, 3) := by decide +kernel
theorem dX7_goesBack_4 : decode cX7_goesBack 4 = .ok (.bipush 45, 2) := by decide +kernel
theorem dX7_goesBack_6 : decode cX7_goesBack 6 = .ok (.iload_n 1, 1) := by decide +kernel
theorem dX7_goesBack_7 : decode cX7_goesBack 7 = .ok (.iadd, 1) := by decide +kernel
theorem dX7_goesBack_8 : decode cX7_goesBack 8 = .ok (.iaload, 1) := by decide +kernel
theorem dX7_goesBack_9 : decode cX7_goesBack 9 = .ok (.istore_n 3, 1) := by decide +kernel
theorem dX7_goesBack_10 : decode cX7_goesBack 10 = .ok (.iload_n 3, 1) := by decide +kernel
theorem dX7_goesBack_11 : decode cX7_goesBack 11 = .ok (.ifCond .le 31, 3) := by decide +kernel
theorem dX7_goesBack_14 : decode cX7_goesBack 14 = .ok (.aload_n 0, 1) := by decide +kernel
theorem dX7_goesBack_15 : decode cX7_goesBack 15 = .ok (.getfield 7, 3) := by decide +kernel
theorem dX7_goesBack_18 : decode cX7_goesBack 18 = .ok (.iload_n 1, 1) := by decide +kernel
theorem dX7_goesBack_19 : decode cX7_goesBack 19 = .ok (.iload_n 3, 1) := by decide +kernel
theorem dX7_goesBack_20 : decode cX7_goesBack 20 = .ok (.invokestatic 61, 3) := by decide +kernel
theorem dX7_goesBack_23 : decode cX7_goesBack 23 = .ok (.aload_n 0, 1) := by decide +kernel
theorem dX7_goesBack_24 : decode cX7_goesBack 24 = .ok (.getfield 7, 3) := by decide +kernel
theorem dX7_goesBack_27 : decode cX7_goesBack 27 = .ok (.iload_n 1, 1) := by decide +kernel
theorem dX7_goesBack_28 : decode cX7_goesBack 28 = .ok (.iload_n 3, 1) := by decide +kernel
theorem dX7_goesBack_29 : decode cX7_goesBack 29 = .ok (.iconst 1, 1) := by decide +kernel
theorem dX7_goesBack_30 : decode cX7_goesBack 30 = .ok (.isub, 1) := by decide +kernel
theorem dX7_goesBack_31 : decode cX7_goesBack 31 = .ok (.invokestatic 61, 3) := by decide +kernel
theorem dX7_goesBack_34 : decode cX7_goesBack 34 = .ok (.iaload, 1) := by decide +kernel
theorem dX7_goesBack_35 : decode cX7_goesBack 35 = .ok (.iastore, 1) := by decide +kernel
theorem dX7_goesBack_36 : decode cX7_goesBack 36 = .ok (.iinc 3 (-1), 3) := by decide +kernel
theorem dX7_goesBack_39 : decode cX7_goesBack 39 = .ok (.goto (-29), 3) := by decide +kernel
theorem dX7_goesBack_42 : decode cX7_goesBack 42 = .ok (.aload_n 0, 1) := by decide +kernel
theorem dX7_goesBack_43 : decode cX7_goesBack 43 = .ok (.getfield 7, 3) := by decide +kernel
theorem dX7_goesBack_46 : decode cX7_goesBack 46 = .ok (.iload_n 1, 1) := by decide +kernel
theorem dX7_goesBack_47 : decode cX7_goesBack 47 = .ok (.iconst 0, 1) := by decide +kernel
theorem dX7_goesBack_48 : decode cX7_goesBack 48 = .ok (.invokestatic 61, 3) := by decide +kernel
theorem dX7_goesBack_51 : decode cX7_goesBack 51 = .ok (.iload_n 2, 1) := by decide +kernel
theorem dX7_goesBack_52 : decode cX7_goesBack 52 = .ok (.iastore, 1) := by decide +kernel
theorem dX7_goesBack_53 : decode cX7_goesBack 53 = .ok (.aload_n 0, 1) := by decide +kernel
theorem dX7_goesBack_54 : decode cX7_goesBack 54 = .ok (.getfield 7, 3) := by decide +kernel
theorem dX7_goesBack_57 : decode cX7_goesBack 57 = .ok (.bipush 45, 2) := by decide +kernel
theorem dX7_goesBack_59 : decode cX7_goesBack 59 = .ok (.iload_n 1, 1) := by decide +kernel
theorem dX7_goesBack_60 : decode cX7_goesBack 60 = .ok (.iadd, 1) := by decide +kernel
theorem dX7_goesBack_61 : decode cX7_goesBack 61 = .ok (.dup2, 1) := by decide +kernel
theorem dX7_goesBack_62 : decode cX7_goesBack 62 = .ok (.iaload, 1) := by decide +kernel
theorem dX7_goesBack_63 : decode cX7_goesBack 63 = .ok (.iconst 1, 1) := by decide +kernel
theorem dX7_goesBack_64 : decode cX7_goesBack 64 = .ok (.iadd, 1) := by decide +kernel
theorem dX7_goesBack_65 : decode cX7_goesBack 65 = .ok (.iastore, 1) := by decide +kernel
theorem dX7_goesBack_66 : decode cX7_goesBack 66 = .ok (.return_, 1) := by decide +kernel
set_option maxRecDepth 20000 in
theorem ggX7_takes_X7_inRow : GoodIn wsX7_takes wsX7_inRow := goodIn_r _ [5] (by decide +kernel) (by decide +kernel)
set_option maxRecDepth 20000 in
theorem gX7_takes_X7_inRow : GoodIn wsX7_takes (va_wsS RX7 61 yX7_inRow wsX7_inRow) := goodIn_app (goodIn_of _ (by decide +kernel)) ggX7_takes_X7_inRow
set_option maxRecDepth 20000 in
theorem ggX7_takes_X7_hasPassed : GoodIn wsX7_takes wsX7_hasPassed := goodIn_r _ [9, 1, 10, 11, 4, 12, 13, 14, 15, 16, 17, 18, 19, 20] (by decide +kernel) (by decide +kernel)
set_option maxRecDepth 20000 in
theorem gX7_takes_X7_hasPassed : GoodIn wsX7_takes (wsV RX7 64 RX7 yX7_hasPassed wsX7_hasPassed) := goodIn_app (goodIn_of _ (by decide +kernel)) ggX7_takes_X7_hasPassed
theorem dX7_takes_0 : decode cX7_takes 0 = .ok (.iconst 0, 1) := by decide +kernel
theorem dX7_takes_1 : decode cX7_takes 1 = .ok (.istore_n 2, 1) := by decide +kernel
theorem dX7_takes_2 : decode cX7_takes 2 = .ok (.iload_n 2, 1) := by decide +kernel
theorem dX7_takes_3 : decode cX7_takes 3 = .ok (.aload_n 0, 1) := by decide +kernel
theorem dX7_takes_4 : decode cX7_takes 4 = .ok (.getfield 7, 3) := by decide +kernel
theorem dX7_takes_7 : decode cX7_takes 7 = .ok (.bipush 45, 2) := by decide +kernel
theorem dX7_takes_9 : decode cX7_takes 9 = .ok (.iload_n 1, 1) := by decide +kernel
theorem dX7_takes_10 : decode cX7_takes 10 = .ok (.iadd, 1) := by decide +kernel
theorem dX7_takes_11 : decode cX7_takes 11 = .ok (.iaload, 1) := by decide +kernel
theorem dX7_takes_12 : decode cX7_takes 12 = .ok (.if_icmp .ge 26, 3) := by decide +kernel
theorem dX7_takes_15 : decode cX7_takes 15 = .ok (.aload_n 0, 1) := by decide +kernel
theorem dX7_takes_16 : decode cX7_takes 16 = .ok (.aload_n 0, 1) := by decide +kernel
theorem dX7_takes_17 : decode cX7_takes 17 = .ok (.getfield 7, 3) := by decide +kernel
theorem dX7_takes_20 : decode cX7_takes 20 = .ok (.iload_n 1, 1) := by decide +kernel
theorem dX7_takes_21 : decode cX7_takes 21 = .ok (.iload_n 2, 1) := by decide +kernel
theorem dX7_takes_22 : decode cX7_takes 22 = .ok (.invokestatic 61, 3) := by decide +kernel
theorem dX7_takes_25 : decode cX7_takes 25 = .ok (.iaload, 1) := by decide +kernel
theorem dX7_takes_26 : decode cX7_takes 26 = .ok (.invokevirtual 64, 3) := by decide +kernel
theorem dX7_takes_29 : decode cX7_takes 29 = .ok (.ifCond .eq 9, 3) := by decide +kernel
theorem dX7_takes_32 : decode cX7_takes 32 = .ok (.iinc 2 1, 3) := by decide +kernel
theorem dX7_takes_35 : decode cX7_takes 35 = .ok (.goto (-33), 3) := by decide +kernel
theorem dX7_takes_38 : decode cX7_takes 38 = .ok (.iload_n 2, 1) := by decide +kernel
theorem dX7_takes_39 : decode cX7_takes 39 = .ok (.aload_n 0, 1) := by decide +kernel
theorem dX7_takes_40 : decode cX7_takes 40 = .ok (.getfield 7, 3) := by decide +kernel
theorem dX7_takes_43 : decode cX7_takes 43 = .ok (.bipush 45, 2) := by decide +kernel
theorem dX7_takes_45 : decode cX7_takes 45 = .ok (.iload_n 1, 1) := by decide +kernel
theorem dX7_takes_46 : decode cX7_takes 46 = .ok (.iadd, 1) := by decide +kernel
theorem dX7_takes_47 : decode cX7_takes 47 = .ok (.iaload, 1) := by decide +kernel
theorem dX7_takes_48 : decode cX7_takes 48 = .ok (.if_icmp .ne 7, 3) := by decide +kernel
theorem dX7_takes_51 : decode cX7_takes 51 = .ok (.sipush (-1006), 3) := by decide +kernel
theorem dX7_takes_54 : decode cX7_takes 54 = .ok (.ireturn, 1) := by decide +kernel
theorem dX7_takes_55 : decode cX7_takes 55 = .ok (.aload_n 0, 1) := by decide +kernel
theorem dX7_takes_56 : decode cX7_takes 56 = .ok (.getfield 7, 3) := by decide +kernel
theorem dX7_takes_59 : decode cX7_takes 59 = .ok (.iload_n 1, 1) := by decide +kernel
theorem dX7_takes_60 : decode cX7_takes 60 = .ok (.iload_n 2, 1) := by decide +kernel
theorem dX7_takes_61 : decode cX7_takes 61 = .ok (.invokestatic 61, 3) := by decide +kernel
theorem dX7_takes_64 : decode cX7_takes 64 = .ok (.iaload, 1) := by decide +kernel
theorem dX7_takes_65 : decode cX7_takes 65 = .ok (.istore_n 3, 1) := by decide +kernel
theorem dX7_takes_66 : decode cX7_takes 66 = .ok (.aload_n 0, 1) := by decide +kernel
theorem dX7_takes_67 : decode cX7_takes 67 = .ok (.getfield 7, 3) := by decide +kernel
theorem dX7_takes_70 : decode cX7_takes 70 = .ok (.bipush 45, 2) := by decide +kernel
theorem dX7_takes_72 : decode cX7_takes 72 = .ok (.iload_n 1, 1) := by decide +kernel
theorem dX7_takes_73 : decode cX7_takes 73 = .ok (.iadd, 1) := by decide +kernel
theorem dX7_takes_74 : decode cX7_takes 74 = .ok (.dup2, 1) := by decide +kernel
theorem dX7_takes_75 : decode cX7_takes 75 = .ok (.iaload, 1) := by decide +kernel
theorem dX7_takes_76 : decode cX7_takes 76 = .ok (.iconst 1, 1) := by decide +kernel
theorem dX7_takes_77 : decode cX7_takes 77 = .ok (.isub, 1) := by decide +kernel
theorem dX7_takes_78 : decode cX7_takes 78 = .ok (.iastore, 1) := by decide +kernel
theorem dX7_takes_79 : decode cX7_takes 79 = .ok (.iload_n 2, 1) := by decide +kernel
theorem dX7_takes_80 : decode cX7_takes 80 = .ok (.istore 4, 2) := by decide +kernel
theorem dX7_takes_82 : decode cX7_takes 82 = .ok (.iload 4, 2) := by decide +kernel
theorem dX7_takes_84 : decode cX7_takes 84 = .ok (.aload_n 0, 1) := by decide +kernel
theorem dX7_takes_85 : decode cX7_takes 85 = .ok (.getfield 7, 3) := by decide +kernel
theorem dX7_takes_88 : decode cX7_takes 88 = .ok (.bipush 45, 2) := by decide +kernel
theorem dX7_takes_90 : decode cX7_takes 90 = .ok (.iload_n 1, 1) := by decide +kernel
theorem dX7_takes_91 : decode cX7_takes 91 = .ok (.iadd, 1) := by decide +kernel
theorem dX7_takes_92 : decode cX7_takes 92 = .ok (.iaload, 1) := by decide +kernel
theorem dX7_takes_93 : decode cX7_takes 93 = .ok (.if_icmp .ge 33, 3) := by decide +kernel
theorem dX7_takes_96 : decode cX7_takes 96 = .ok (.aload_n 0, 1) := by decide +kernel
theorem dX7_takes_97 : decode cX7_takes 97 = .ok (.getfield 7, 3) := by decide +kernel
theorem dX7_takes_100 : decode cX7_takes 100 = .ok (.iload_n 1, 1) := by decide +kernel
theorem dX7_takes_101 : decode cX7_takes 101 = .ok (.iload 4, 2) := by decide +kernel
theorem dX7_takes_103 : decode cX7_takes 103 = .ok (.invokestatic 61, 3) := by decide +kernel
theorem dX7_takes_106 : decode cX7_takes 106 = .ok (.aload_n 0, 1) := by decide +kernel
theorem dX7_takes_107 : decode cX7_takes 107 = .ok (.getfield 7, 3) := by decide +kernel
theorem dX7_takes_110 : decode cX7_takes 110 = .ok (.iload_n 1, 1) := by decide +kernel
theorem dX7_takes_111 : decode cX7_takes 111 = .ok (.iload 4, 2) := by decide +kernel
theorem dX7_takes_113 : decode cX7_takes 113 = .ok (.iconst 1, 1) := by decide +kernel
theorem dX7_takes_114 : decode cX7_takes 114 = .ok (.iadd, 1) := by decide +kernel
theorem dX7_takes_115 : decode cX7_takes 115 = .ok (.invokestatic 61, 3) := by decide +kernel
theorem dX7_takes_118 : decode cX7_takes 118 = .ok (.iaload, 1) := by decide +kernel
theorem dX7_takes_119 : decode cX7_takes 119 = .ok (.iastore, 1) := by decide +kernel
theorem dX7_takes_120 : decode cX7_takes 120 = .ok (.iinc 4 1, 3) := by decide +kernel
theorem dX7_takes_123 : decode cX7_takes 123 = .ok (.goto (-41), 3) := by decide +kernel
theorem dX7_takes_126 : decode cX7_takes 126 = .ok (.aload_n 0, 1) := by decide +kernel
theorem dX7_takes_127 : decode cX7_takes 127 = .ok (.getfield 7, 3) := by decide +kernel
theorem dX7_takes_130 : decode cX7_takes 130 = .ok (.iload_n 1, 1) := by decide +kernel
theorem dX7_takes_131 : decode cX7_takes 131 = .ok (.aload_n 0, 1) := by decide +kernel
theorem dX7_takes_132 : decode cX7_takes 132 = .ok (.getfield 7, 3) := by decide +kernel
theorem dX7_takes_135 : decode cX7_takes 135 = .ok (.bipush 45, 2) := by decide +kernel
theorem dX7_takes_137 : decode cX7_takes 137 = .ok (.iload_n 1, 1) := by decide +kernel
theorem dX7_takes_138 : decode cX7_takes 138 = .ok (.iadd, 1) := by decide +kernel
theorem dX7_takes_139 : decode cX7_takes 139 = .ok (.iaload, 1) := by decide +kernel
theorem dX7_takes_140 : decode cX7_takes 140 = .ok (.invokestatic 61, 3) := by decide +kernel
theorem dX7_takes_143 : decode cX7_takes 143 = .ok (.iconst 0, 1) := by decide +kernel
theorem dX7_takes_144 : decode cX7_takes 144 = .ok (.iastore, 1) := by decide +kernel
theorem dX7_takes_145 : decode cX7_takes 145 = .ok (.iload_n 3, 1) := by decide +kernel
theorem dX7_takes_146 : decode cX7_takes 146 = .ok (.ireturn, 1) := by decide +kernel
set_option maxRecDepth 20000 in
theorem ggX7_acts_X7_isOpen : GoodIn wsX7_acts wsX7_isOpen := goodIn_r _ [6, 1, 7, 8, 5, 9, 10, 11, 12, 13, 14, 15, 16, 17, 18, 19, 20, 47, 48, 49, 50, 51, 52, 53, 54] (by decide +kernel) (by decide +kernel)
set_option maxRecDepth 20000 in
theorem gX7_acts_X7_isOpen : GoodIn wsX7_acts (wsV RX7 51 RX7 yX7_isOpen wsX7_isOpen) := goodIn_app (goodIn_of _ (by decide +kernel)) ggX7_acts_X7_isOpen
set_option maxRecDepth 20000 in
theorem ggX7_acts_X7_ofGate : GoodIn wsX7_acts wsX7_ofGate := goodIn_r _ [9] (by decide +kernel) (by decide +kernel)
set_option maxRecDepth 20000 in
theorem gX7_acts_X7_ofGate : GoodIn wsX7_acts (va_wsS RX7 33 yX7_ofGate wsX7_ofGate) := goodIn_app (goodIn_of _ (by decide +kernel)) ggX7_acts_X7_ofGate
set_option maxRecDepth 20000 in
theorem ggX7_acts_X7_takes : GoodIn wsX7_acts wsX7_takes := goodIn_r _ [24, 1, 25, 26, 5, 27, 28, 29, 30, 31, 32, 33, 34, 47, 48, 49, 50, 51, 52, 53, 54] (by decide +kernel) (by decide +kernel)
set_option maxRecDepth 20000 in
theorem gX7_acts_X7_takes : GoodIn wsX7_acts (wsV RX7 68 RX7 yX7_takes wsX7_takes) := goodIn_app (goodIn_of _ (by decide +kernel)) ggX7_acts_X7_takes
set_option maxRecDepth 20000 in
theorem ggX7_acts_X7_lettersOf : GoodIn wsX7_acts wsX7_lettersOf := goodIn_r _ [38, 1, 32, 33, 5, 34, 47, 48, 49, 50, 51, 52, 53, 54] (by decide +kernel) (by decide +kernel)
set_option maxRecDepth 20000 in
theorem gX7_acts_X7_lettersOf : GoodIn wsX7_acts (wsV RX7 58 RX7 yX7_lettersOf wsX7_lettersOf) := goodIn_app (goodIn_of _ (by decide +kernel)) ggX7_acts_X7_lettersOf
set_option maxRecDepth 20000 in
theorem ggX7_acts_X7_ofWord : GoodIn wsX7_acts wsX7_ofWord := goodIn_r _ [34] (by decide +kernel) (by decide +kernel)
set_option maxRecDepth 20000 in
theorem gX7_acts_X7_ofWord : GoodIn wsX7_acts (va_wsS RX7 55 yX7_ofWord wsX7_ofWord) := goodIn_app (goodIn_of _ (by decide +kernel)) ggX7_acts_X7_ofWord
set_option maxRecDepth 20000 in
theorem ggX7_acts_X7_comes : GoodIn wsX7_acts wsX7_comes := goodIn_r _ [42, 1, 25, 26, 5, 27, 47, 48, 49, 50, 51, 52, 53, 54] (by decide +kernel) (by decide +kernel)
set_option maxRecDepth 20000 in
theorem gX7_acts_X7_comes : GoodIn wsX7_acts (wsV RX7 71 RX7 yX7_comes wsX7_comes) := goodIn_app (goodIn_of _ (by decide +kernel)) ggX7_acts_X7_comes
set_option maxRecDepth 20000 in
theorem ggX7_acts_X7_goesBack : GoodIn wsX7_acts wsX7_goesBack := goodIn_r _ [46, 1, 25, 26, 5, 27, 47, 48, 49, 50, 51, 52, 53, 54] (by decide +kernel) (by decide +kernel)
set_option maxRecDepth 20000 in
theorem gX7_acts_X7_goesBack : GoodIn wsX7_acts (wsV RX7 75 RX7 yX7_goesBack wsX7_goesBack) := goodIn_app (goodIn_of _ (by decide +kernel)) ggX7_acts_X7_goesBack
theorem dX7_acts_0 : decode cX7_acts 0 = .ok (.aload_n 0, 1) := by decide +kernel
theorem dX7_acts_1 : decode cX7_acts 1 = .ok (.iload_n 1, 1) := by decide +kernel
theorem dX7_acts_2 : decode cX7_acts 2 = .ok (.aload_n 0, 1) := by decide +kernel
theorem dX7_acts_3 : decode cX7_acts 3 = .ok (.getfield 7, 3) := by decide +kernel
theorem dX7_acts_6 : decode cX7_acts 6 = .ok (.iconst 0, 1) := by decide +kernel
theorem dX7_acts_7 : decode cX7_acts 7 = .ok (.iaload, 1) := by decide +kernel
theorem dX7_acts_8 : decode cX7_acts 8 = .ok (.invokevirtual 51, 3) := by decide +kernel
theorem dX7_acts_11 : decode cX7_acts 11 = .ok (.istore_n 2, 1) := by decide +kernel
theorem dX7_acts_12 : decode cX7_acts 12 = .ok (.aload_n 0, 1) := by decide +kernel
theorem dX7_acts_13 : decode cX7_acts 13 = .ok (.getfield 7, 3) := by decide +kernel
theorem dX7_acts_16 : decode cX7_acts 16 = .ok (.iload_n 1, 1) := by decide +kernel
theorem dX7_acts_17 : decode cX7_acts 17 = .ok (.iconst 0, 1) := by decide +kernel
theorem dX7_acts_18 : decode cX7_acts 18 = .ok (.invokestatic 33, 3) := by decide +kernel
theorem dX7_acts_21 : decode cX7_acts 21 = .ok (.iaload, 1) := by decide +kernel
theorem dX7_acts_22 : decode cX7_acts 22 = .ok (.istore_n 3, 1) := by decide +kernel
theorem dX7_acts_23 : decode cX7_acts 23 = .ok (.iload_n 2, 1) := by decide +kernel
theorem dX7_acts_24 : decode cX7_acts 24 = .ok (.ifCond .eq 34, 3) := by decide +kernel
theorem dX7_acts_27 : decode cX7_acts 27 = .ok (.aload_n 0, 1) := by decide +kernel
theorem dX7_acts_28 : decode cX7_acts 28 = .ok (.getfield 7, 3) := by decide +kernel
theorem dX7_acts_31 : decode cX7_acts 31 = .ok (.iload_n 1, 1) := by decide +kernel
theorem dX7_acts_32 : decode cX7_acts 32 = .ok (.iconst 4, 1) := by decide +kernel
theorem dX7_acts_33 : decode cX7_acts 33 = .ok (.invokestatic 33, 3) := by decide +kernel
theorem dX7_acts_36 : decode cX7_acts 36 = .ok (.iaload, 1) := by decide +kernel
theorem dX7_acts_37 : decode cX7_acts 37 = .ok (.sipush (-1006), 3) := by decide +kernel
theorem dX7_acts_40 : decode cX7_acts 40 = .ok (.if_icmp .ne 18, 3) := by decide +kernel
theorem dX7_acts_43 : decode cX7_acts 43 = .ok (.aload_n 0, 1) := by decide +kernel
theorem dX7_acts_44 : decode cX7_acts 44 = .ok (.getfield 7, 3) := by decide +kernel
theorem dX7_acts_47 : decode cX7_acts 47 = .ok (.iload_n 1, 1) := by decide +kernel
theorem dX7_acts_48 : decode cX7_acts 48 = .ok (.iconst 4, 1) := by decide +kernel
theorem dX7_acts_49 : decode cX7_acts 49 = .ok (.invokestatic 33, 3) := by decide +kernel
theorem dX7_acts_52 : decode cX7_acts 52 = .ok (.aload_n 0, 1) := by decide +kernel
theorem dX7_acts_53 : decode cX7_acts 53 = .ok (.iload_n 3, 1) := by decide +kernel
theorem dX7_acts_54 : decode cX7_acts 54 = .ok (.invokevirtual 68, 3) := by decide +kernel
theorem dX7_acts_57 : decode cX7_acts 57 = .ok (.iastore, 1) := by decide +kernel
theorem dX7_acts_58 : decode cX7_acts 58 = .ok (.aload_n 0, 1) := by decide +kernel
theorem dX7_acts_59 : decode cX7_acts 59 = .ok (.getfield 7, 3) := by decide +kernel
theorem dX7_acts_62 : decode cX7_acts 62 = .ok (.iload_n 1, 1) := by decide +kernel
theorem dX7_acts_63 : decode cX7_acts 63 = .ok (.iconst 4, 1) := by decide +kernel
theorem dX7_acts_64 : decode cX7_acts 64 = .ok (.invokestatic 33, 3) := by decide +kernel
theorem dX7_acts_67 : decode cX7_acts 67 = .ok (.iaload, 1) := by decide +kernel
theorem dX7_acts_68 : decode cX7_acts 68 = .ok (.istore 4, 2) := by decide +kernel
theorem dX7_acts_70 : decode cX7_acts 70 = .ok (.iload_n 2, 1) := by decide +kernel
theorem dX7_acts_71 : decode cX7_acts 71 = .ok (.ifCond .eq 146, 3) := by decide +kernel
theorem dX7_acts_74 : decode cX7_acts 74 = .ok (.iload 4, 2) := by decide +kernel
theorem dX7_acts_76 : decode cX7_acts 76 = .ok (.sipush (-1006), 3) := by decide +kernel
theorem dX7_acts_79 : decode cX7_acts 79 = .ok (.if_icmp .eq 138, 3) := by decide +kernel
theorem dX7_acts_82 : decode cX7_acts 82 = .ok (.aload_n 0, 1) := by decide +kernel
theorem dX7_acts_83 : decode cX7_acts 83 = .ok (.getfield 7, 3) := by decide +kernel
theorem dX7_acts_86 : decode cX7_acts 86 = .ok (.iload_n 1, 1) := by decide +kernel
theorem dX7_acts_87 : decode cX7_acts 87 = .ok (.iconst 5, 1) := by decide +kernel
theorem dX7_acts_88 : decode cX7_acts 88 = .ok (.invokestatic 33, 3) := by decide +kernel
theorem dX7_acts_91 : decode cX7_acts 91 = .ok (.dup2, 1) := by decide +kernel
theorem dX7_acts_92 : decode cX7_acts 92 = .ok (.iaload, 1) := by decide +kernel
theorem dX7_acts_93 : decode cX7_acts 93 = .ok (.iconst 1, 1) := by decide +kernel
theorem dX7_acts_94 : decode cX7_acts 94 = .ok (.iadd, 1) := by decide +kernel
theorem dX7_acts_95 : decode cX7_acts 95 = .ok (.iastore, 1) := by decide +kernel
theorem dX7_acts_96 : decode cX7_acts 96 = .ok (.aload_n 0, 1) := by decide +kernel
theorem dX7_acts_97 : decode cX7_acts 97 = .ok (.getfield 7, 3) := by decide +kernel
theorem dX7_acts_100 : decode cX7_acts 100 = .ok (.iconst 2, 1) := by decide +kernel
theorem dX7_acts_101 : decode cX7_acts 101 = .ok (.dup2, 1) := by decide +kernel
theorem dX7_acts_102 : decode cX7_acts 102 = .ok (.iaload, 1) := by decide +kernel
theorem dX7_acts_103 : decode cX7_acts 103 = .ok (.iconst 1, 1) := by decide +kernel
theorem dX7_acts_104 : decode cX7_acts 104 = .ok (.iadd, 1) := by decide +kernel
theorem dX7_acts_105 : decode cX7_acts 105 = .ok (.iastore, 1) := by decide +kernel
theorem dX7_acts_106 : decode cX7_acts 106 = .ok (.aload_n 0, 1) := by decide +kernel
theorem dX7_acts_107 : decode cX7_acts 107 = .ok (.getfield 7, 3) := by decide +kernel
theorem dX7_acts_110 : decode cX7_acts 110 = .ok (.iload_n 1, 1) := by decide +kernel
theorem dX7_acts_111 : decode cX7_acts 111 = .ok (.iconst 5, 1) := by decide +kernel
theorem dX7_acts_112 : decode cX7_acts 112 = .ok (.invokestatic 33, 3) := by decide +kernel
theorem dX7_acts_115 : decode cX7_acts 115 = .ok (.iaload, 1) := by decide +kernel
theorem dX7_acts_116 : decode cX7_acts 116 = .ok (.aload_n 0, 1) := by decide +kernel
theorem dX7_acts_117 : decode cX7_acts 117 = .ok (.iload 4, 2) := by decide +kernel
theorem dX7_acts_119 : decode cX7_acts 119 = .ok (.invokevirtual 58, 3) := by decide +kernel
theorem dX7_acts_122 : decode cX7_acts 122 = .ok (.if_icmp .ne 209, 3) := by decide +kernel
theorem dX7_acts_125 : decode cX7_acts 125 = .ok (.aload_n 0, 1) := by decide +kernel
theorem dX7_acts_126 : decode cX7_acts 126 = .ok (.getfield 7, 3) := by decide +kernel
theorem dX7_acts_129 : decode cX7_acts 129 = .ok (.iload 4, 2) := by decide +kernel
theorem dX7_acts_131 : decode cX7_acts 131 = .ok (.iconst 1, 1) := by decide +kernel
theorem dX7_acts_132 : decode cX7_acts 132 = .ok (.invokestatic 55, 3) := by decide +kernel
theorem dX7_acts_135 : decode cX7_acts 135 = .ok (.iconst 1, 1) := by decide +kernel
theorem dX7_acts_136 : decode cX7_acts 136 = .ok (.iastore, 1) := by decide +kernel
theorem dX7_acts_137 : decode cX7_acts 137 = .ok (.aload_n 0, 1) := by decide +kernel
theorem dX7_acts_138 : decode cX7_acts 138 = .ok (.getfield 7, 3) := by decide +kernel
theorem dX7_acts_141 : decode cX7_acts 141 = .ok (.iload 4, 2) := by decide +kernel
theorem dX7_acts_143 : decode cX7_acts 143 = .ok (.iconst 2, 1) := by decide +kernel
theorem dX7_acts_144 : decode cX7_acts 144 = .ok (.invokestatic 55, 3) := by decide +kernel
theorem dX7_acts_147 : decode cX7_acts 147 = .ok (.aload_n 0, 1) := by decide +kernel
theorem dX7_acts_148 : decode cX7_acts 148 = .ok (.getfield 7, 3) := by decide +kernel
theorem dX7_acts_151 : decode cX7_acts 151 = .ok (.iconst 0, 1) := by decide +kernel
theorem dX7_acts_152 : decode cX7_acts 152 = .ok (.iaload, 1) := by decide +kernel
theorem dX7_acts_153 : decode cX7_acts 153 = .ok (.iastore, 1) := by decide +kernel
theorem dX7_acts_154 : decode cX7_acts 154 = .ok (.aload_n 0, 1) := by decide +kernel
theorem dX7_acts_155 : decode cX7_acts 155 = .ok (.getfield 7, 3) := by decide +kernel
theorem dX7_acts_158 : decode cX7_acts 158 = .ok (.iload 4, 2) := by decide +kernel
theorem dX7_acts_160 : decode cX7_acts 160 = .ok (.iconst 3, 1) := by decide +kernel
theorem dX7_acts_161 : decode cX7_acts 161 = .ok (.invokestatic 55, 3) := by decide +kernel
theorem dX7_acts_164 : decode cX7_acts 164 = .ok (.iload_n 1, 1) := by decide +kernel
theorem dX7_acts_165 : decode cX7_acts 165 = .ok (.iastore, 1) := by decide +kernel
theorem dX7_acts_166 : decode cX7_acts 166 = .ok (.aload_n 0, 1) := by decide +kernel
theorem dX7_acts_167 : decode cX7_acts 167 = .ok (.getfield 7, 3) := by decide +kernel
theorem dX7_acts_170 : decode cX7_acts 170 = .ok (.iload_n 1, 1) := by decide +kernel
theorem dX7_acts_171 : decode cX7_acts 171 = .ok (.bipush 6, 2) := by decide +kernel
theorem dX7_acts_173 : decode cX7_acts 173 = .ok (.invokestatic 33, 3) := by decide +kernel
theorem dX7_acts_176 : decode cX7_acts 176 = .ok (.dup2, 1) := by decide +kernel
theorem dX7_acts_177 : decode cX7_acts 177 = .ok (.iaload, 1) := by decide +kernel
theorem dX7_acts_178 : decode cX7_acts 178 = .ok (.iconst 1, 1) := by decide +kernel
theorem dX7_acts_179 : decode cX7_acts 179 = .ok (.iadd, 1) := by decide +kernel
theorem dX7_acts_180 : decode cX7_acts 180 = .ok (.iastore, 1) := by decide +kernel
theorem dX7_acts_181 : decode cX7_acts 181 = .ok (.aload_n 0, 1) := by decide +kernel
theorem dX7_acts_182 : decode cX7_acts 182 = .ok (.getfield 7, 3) := by decide +kernel
theorem dX7_acts_185 : decode cX7_acts 185 = .ok (.iload_n 1, 1) := by decide +kernel
theorem dX7_acts_186 : decode cX7_acts 186 = .ok (.iconst 4, 1) := by decide +kernel
theorem dX7_acts_187 : decode cX7_acts 187 = .ok (.invokestatic 33, 3) := by decide +kernel
theorem dX7_acts_190 : decode cX7_acts 190 = .ok (.sipush (-1006), 3) := by decide +kernel
theorem dX7_acts_193 : decode cX7_acts 193 = .ok (.iastore, 1) := by decide +kernel
theorem dX7_acts_194 : decode cX7_acts 194 = .ok (.aload_n 0, 1) := by decide +kernel
theorem dX7_acts_195 : decode cX7_acts 195 = .ok (.getfield 7, 3) := by decide +kernel
theorem dX7_acts_198 : decode cX7_acts 198 = .ok (.iload_n 1, 1) := by decide +kernel
theorem dX7_acts_199 : decode cX7_acts 199 = .ok (.iconst 5, 1) := by decide +kernel
theorem dX7_acts_200 : decode cX7_acts 200 = .ok (.invokestatic 33, 3) := by decide +kernel
theorem dX7_acts_203 : decode cX7_acts 203 = .ok (.iconst 0, 1) := by decide +kernel
theorem dX7_acts_204 : decode cX7_acts 204 = .ok (.iastore, 1) := by decide +kernel
theorem dX7_acts_205 : decode cX7_acts 205 = .ok (.aload_n 0, 1) := by decide +kernel
theorem dX7_acts_206 : decode cX7_acts 206 = .ok (.iconst 1, 1) := by decide +kernel
theorem dX7_acts_207 : decode cX7_acts 207 = .ok (.iload_n 3, 1) := by decide +kernel
theorem dX7_acts_208 : decode cX7_acts 208 = .ok (.isub, 1) := by decide +kernel
theorem dX7_acts_209 : decode cX7_acts 209 = .ok (.iload 4, 2) := by decide +kernel
theorem dX7_acts_211 : decode cX7_acts 211 = .ok (.invokevirtual 71, 3) := by decide +kernel
theorem dX7_acts_214 : decode cX7_acts 214 = .ok (.goto 117, 3) := by decide +kernel
theorem dX7_acts_217 : decode cX7_acts 217 = .ok (.iload_n 2, 1) := by decide +kernel
theorem dX7_acts_218 : decode cX7_acts 218 = .ok (.ifCond .ne 113, 3) := by decide +kernel
theorem dX7_acts_221 : decode cX7_acts 221 = .ok (.iload 4, 2) := by decide +kernel
theorem dX7_acts_223 : decode cX7_acts 223 = .ok (.sipush (-1006), 3) := by decide +kernel
theorem dX7_acts_226 : decode cX7_acts 226 = .ok (.if_icmp .eq 105, 3) := by decide +kernel
theorem dX7_acts_229 : decode cX7_acts 229 = .ok (.aload_n 0, 1) := by decide +kernel
theorem dX7_acts_230 : decode cX7_acts 230 = .ok (.getfield 7, 3) := by decide +kernel
theorem dX7_acts_233 : decode cX7_acts 233 = .ok (.iload_n 1, 1) := by decide +kernel
theorem dX7_acts_234 : decode cX7_acts 234 = .ok (.iconst 2, 1) := by decide +kernel
theorem dX7_acts_235 : decode cX7_acts 235 = .ok (.invokestatic 33, 3) := by decide +kernel
theorem dX7_acts_238 : decode cX7_acts 238 = .ok (.iaload, 1) := by decide +kernel
theorem dX7_acts_239 : decode cX7_acts 239 = .ok (.ifCond .ne 92, 3) := by decide +kernel
theorem dX7_acts_242 : decode cX7_acts 242 = .ok (.aload_n 0, 1) := by decide +kernel
theorem dX7_acts_243 : decode cX7_acts 243 = .ok (.getfield 7, 3) := by decide +kernel
theorem dX7_acts_246 : decode cX7_acts 246 = .ok (.iconst 3, 1) := by decide +kernel
theorem dX7_acts_247 : decode cX7_acts 247 = .ok (.dup2, 1) := by decide +kernel
theorem dX7_acts_248 : decode cX7_acts 248 = .ok (.iaload, 1) := by decide +kernel
theorem dX7_acts_249 : decode cX7_acts 249 = .ok (.aload_n 0, 1) := by decide +kernel
theorem dX7_acts_250 : decode cX7_acts 250 = .ok (.getfield 7, 3) := by decide +kernel
theorem dX7_acts_253 : decode cX7_acts 253 = .ok (.iload_n 1, 1) := by decide +kernel
theorem dX7_acts_254 : decode cX7_acts 254 = .ok (.iconst 5, 1) := by decide +kernel
theorem dX7_acts_255 : decode cX7_acts 255 = .ok (.invokestatic 33, 3) := by decide +kernel
theorem dX7_acts_258 : decode cX7_acts 258 = .ok (.iaload, 1) := by decide +kernel
theorem dX7_acts_259 : decode cX7_acts 259 = .ok (.iadd, 1) := by decide +kernel
theorem dX7_acts_260 : decode cX7_acts 260 = .ok (.iastore, 1) := by decide +kernel
theorem dX7_acts_261 : decode cX7_acts 261 = .ok (.aload_n 0, 1) := by decide +kernel
theorem dX7_acts_262 : decode cX7_acts 262 = .ok (.getfield 7, 3) := by decide +kernel
theorem dX7_acts_265 : decode cX7_acts 265 = .ok (.iload_n 1, 1) := by decide +kernel
theorem dX7_acts_266 : decode cX7_acts 266 = .ok (.bipush 7, 2) := by decide +kernel
theorem dX7_acts_268 : decode cX7_acts 268 = .ok (.invokestatic 33, 3) := by decide +kernel
theorem dX7_acts_271 : decode cX7_acts 271 = .ok (.dup2, 1) := by decide +kernel
theorem dX7_acts_272 : decode cX7_acts 272 = .ok (.iaload, 1) := by decide +kernel
theorem dX7_acts_273 : decode cX7_acts 273 = .ok (.aload_n 0, 1) := by decide +kernel
theorem dX7_acts_274 : decode cX7_acts 274 = .ok (.getfield 7, 3) := by decide +kernel
theorem dX7_acts_277 : decode cX7_acts 277 = .ok (.iload_n 1, 1) := by decide +kernel
theorem dX7_acts_278 : decode cX7_acts 278 = .ok (.iconst 5, 1) := by decide +kernel
theorem dX7_acts_279 : decode cX7_acts 279 = .ok (.invokestatic 33, 3) := by decide +kernel
theorem dX7_acts_282 : decode cX7_acts 282 = .ok (.iaload, 1) := by decide +kernel
theorem dX7_acts_283 : decode cX7_acts 283 = .ok (.iadd, 1) := by decide +kernel
theorem dX7_acts_284 : decode cX7_acts 284 = .ok (.iastore, 1) := by decide +kernel
theorem dX7_acts_285 : decode cX7_acts 285 = .ok (.aload_n 0, 1) := by decide +kernel
theorem dX7_acts_286 : decode cX7_acts 286 = .ok (.getfield 7, 3) := by decide +kernel
theorem dX7_acts_289 : decode cX7_acts 289 = .ok (.iload 4, 2) := by decide +kernel
theorem dX7_acts_291 : decode cX7_acts 291 = .ok (.iconst 4, 1) := by decide +kernel
theorem dX7_acts_292 : decode cX7_acts 292 = .ok (.invokestatic 55, 3) := by decide +kernel
theorem dX7_acts_295 : decode cX7_acts 295 = .ok (.dup2, 1) := by decide +kernel
theorem dX7_acts_296 : decode cX7_acts 296 = .ok (.iaload, 1) := by decide +kernel
theorem dX7_acts_297 : decode cX7_acts 297 = .ok (.iconst 1, 1) := by decide +kernel
theorem dX7_acts_298 : decode cX7_acts 298 = .ok (.iadd, 1) := by decide +kernel
theorem dX7_acts_299 : decode cX7_acts 299 = .ok (.iastore, 1) := by decide +kernel
theorem dX7_acts_300 : decode cX7_acts 300 = .ok (.aload_n 0, 1) := by decide +kernel
theorem dX7_acts_301 : decode cX7_acts 301 = .ok (.getfield 7, 3) := by decide +kernel
theorem dX7_acts_304 : decode cX7_acts 304 = .ok (.iload_n 1, 1) := by decide +kernel
theorem dX7_acts_305 : decode cX7_acts 305 = .ok (.iconst 4, 1) := by decide +kernel
theorem dX7_acts_306 : decode cX7_acts 306 = .ok (.invokestatic 33, 3) := by decide +kernel
theorem dX7_acts_309 : decode cX7_acts 309 = .ok (.sipush (-1006), 3) := by decide +kernel
theorem dX7_acts_312 : decode cX7_acts 312 = .ok (.iastore, 1) := by decide +kernel
theorem dX7_acts_313 : decode cX7_acts 313 = .ok (.aload_n 0, 1) := by decide +kernel
theorem dX7_acts_314 : decode cX7_acts 314 = .ok (.getfield 7, 3) := by decide +kernel
theorem dX7_acts_317 : decode cX7_acts 317 = .ok (.iload_n 1, 1) := by decide +kernel
theorem dX7_acts_318 : decode cX7_acts 318 = .ok (.iconst 5, 1) := by decide +kernel
theorem dX7_acts_319 : decode cX7_acts 319 = .ok (.invokestatic 33, 3) := by decide +kernel
theorem dX7_acts_322 : decode cX7_acts 322 = .ok (.iconst 0, 1) := by decide +kernel
theorem dX7_acts_323 : decode cX7_acts 323 = .ok (.iastore, 1) := by decide +kernel
theorem dX7_acts_324 : decode cX7_acts 324 = .ok (.aload_n 0, 1) := by decide +kernel
theorem dX7_acts_325 : decode cX7_acts 325 = .ok (.iload_n 3, 1) := by decide +kernel
theorem dX7_acts_326 : decode cX7_acts 326 = .ok (.iload 4, 2) := by decide +kernel
theorem dX7_acts_328 : decode cX7_acts 328 = .ok (.invokevirtual 75, 3) := by decide +kernel
theorem dX7_acts_331 : decode cX7_acts 331 = .ok (.return_, 1) := by decide +kernel
set_option maxRecDepth 20000 in
theorem ggX7_step_X7_openNow : GoodIn wsX7_step wsX7_openNow := goodIn_r _ [6, 1, 7, 8, 9, 5, 10, 11, 12, 13, 14, 15, 16, 17, 18, 19, 20, 21, 22, 23, 24, 55, 56, 57, 58, 59, 60, 61, 62] (by decide +kernel) (by decide +kernel)
set_option maxRecDepth 20000 in
theorem gX7_step_X7_openNow : GoodIn wsX7_step (wsV RX7 78 RX7 yX7_openNow wsX7_openNow) := goodIn_app (goodIn_of _ (by decide +kernel)) ggX7_step_X7_openNow
set_option maxRecDepth 20000 in
theorem ggX7_step_X7_acts : GoodIn wsX7_step wsX7_acts := goodIn_r _ [28, 1, 7, 8, 9, 5, 10, 11, 12, 13, 14, 15, 16, 17, 18, 19, 20, 21, 22, 23, 24, 29, 30, 31, 32, 33, 34, 35, 36, 37, 38, 39, 40, 41, 42, 43, 44, 45, 46, 47, 48, 49, 50, 51, 52, 53, 54, 55, 56, 57, 58, 59, 60, 61, 62] (by decide +kernel) (by decide +kernel)
set_option maxRecDepth 20000 in
theorem gX7_step_X7_acts : GoodIn wsX7_step (wsV RX7 82 RX7 yX7_acts wsX7_acts) := goodIn_app (goodIn_of _ (by decide +kernel)) ggX7_step_X7_acts
theorem dX7_step_0 : decode cX7_step 0 = .ok (.aload_n 0, 1) := by decide +kernel
theorem dX7_step_1 : decode cX7_step 1 = .ok (.getfield 7, 3) := by decide +kernel
theorem dX7_step_4 : decode cX7_step 4 = .ok (.iconst 1, 1) := by decide +kernel
theorem dX7_step_5 : decode cX7_step 5 = .ok (.dup2, 1) := by decide +kernel
theorem dX7_step_6 : decode cX7_step 6 = .ok (.iaload, 1) := by decide +kernel
theorem dX7_step_7 : decode cX7_step 7 = .ok (.aload_n 0, 1) := by decide +kernel
theorem dX7_step_8 : decode cX7_step 8 = .ok (.invokevirtual 78, 3) := by decide +kernel
theorem dX7_step_11 : decode cX7_step 11 = .ok (.ifCond .ne 7, 3) := by decide +kernel
theorem dX7_step_14 : decode cX7_step 14 = .ok (.iconst 1, 1) := by decide +kernel
theorem dX7_step_15 : decode cX7_step 15 = .ok (.goto 4, 3) := by decide +kernel
theorem dX7_step_18 : decode cX7_step 18 = .ok (.iconst 0, 1) := by decide +kernel
theorem dX7_step_19 : decode cX7_step 19 = .ok (.iadd, 1) := by decide +kernel
theorem dX7_step_20 : decode cX7_step 20 = .ok (.iastore, 1) := by decide +kernel
theorem dX7_step_21 : decode cX7_step 21 = .ok (.iconst 0, 1) := by decide +kernel
theorem dX7_step_22 : decode cX7_step 22 = .ok (.istore_n 1, 1) := by decide +kernel
theorem dX7_step_23 : decode cX7_step 23 = .ok (.iload_n 1, 1) := by decide +kernel
theorem dX7_step_24 : decode cX7_step 24 = .ok (.iconst 4, 1) := by decide +kernel
theorem dX7_step_25 : decode cX7_step 25 = .ok (.if_icmp .ge 14, 3) := by decide +kernel
theorem dX7_step_28 : decode cX7_step 28 = .ok (.aload_n 0, 1) := by decide +kernel
theorem dX7_step_29 : decode cX7_step 29 = .ok (.iload_n 1, 1) := by decide +kernel
theorem dX7_step_30 : decode cX7_step 30 = .ok (.invokevirtual 82, 3) := by decide +kernel
theorem dX7_step_33 : decode cX7_step 33 = .ok (.iinc 1 1, 3) := by decide +kernel
theorem dX7_step_36 : decode cX7_step 36 = .ok (.goto (-13), 3) := by decide +kernel
theorem dX7_step_39 : decode cX7_step 39 = .ok (.aload_n 0, 1) := by decide +kernel
theorem dX7_step_40 : decode cX7_step 40 = .ok (.getfield 7, 3) := by decide +kernel
theorem dX7_step_43 : decode cX7_step 43 = .ok (.iconst 0, 1) := by decide +kernel
theorem dX7_step_44 : decode cX7_step 44 = .ok (.dup2, 1) := by decide +kernel
theorem dX7_step_45 : decode cX7_step 45 = .ok (.iaload, 1) := by decide +kernel
theorem dX7_step_46 : decode cX7_step 46 = .ok (.iconst 1, 1) := by decide +kernel
theorem dX7_step_47 : decode cX7_step 47 = .ok (.iadd, 1) := by decide +kernel
theorem dX7_step_48 : decode cX7_step 48 = .ok (.iastore, 1) := by decide +kernel
theorem dX7_step_49 : decode cX7_step 49 = .ok (.return_, 1) := by decide +kernel
set_option maxRecDepth 20000 in
theorem ggX7_runs_X7_step : GoodIn wsX7_runs wsX7_step := goodIn_r _ [5, 6, 7, 8, 9, 4, 10, 11, 12, 13, 14, 15, 16, 17, 18, 19, 20, 21, 22, 23, 24, 25, 26, 27, 28, 29, 30, 31, 32, 33, 34, 35, 36, 37, 38, 39, 40, 41, 42, 43, 44, 45, 46, 47, 48, 49, 50, 51, 52, 53, 54, 55, 56, 57, 58, 59, 60, 61, 62, 63, 64, 65, 66] (by decide +kernel) (by decide +kernel)
set_option maxRecDepth 20000 in
theorem gX7_runs_X7_step : GoodIn wsX7_runs (wsV RX7 86 RX7 yX7_step wsX7_step) := goodIn_app (goodIn_of _ (by decide +kernel)) ggX7_runs_X7_step
theorem dX7_runs_0 : decode cX7_runs 0 = .ok (.iconst 0, 1) := by decide +kernel
theorem dX7_runs_1 : decode cX7_runs 1 = .ok (.istore_n 2, 1) := by decide +kernel
theorem dX7_runs_2 : decode cX7_runs 2 = .ok (.iload_n 2, 1) := by decide +kernel
theorem dX7_runs_3 : decode cX7_runs 3 = .ok (.iload_n 1, 1) := by decide +kernel
theorem dX7_runs_4 : decode cX7_runs 4 = .ok (.if_icmp .ge 13, 3) := by decide +kernel
theorem dX7_runs_7 : decode cX7_runs 7 = .ok (.aload_n 0, 1) := by decide +kernel
theorem dX7_runs_8 : decode cX7_runs 8 = .ok (.invokevirtual 86, 3) := by decide +kernel
theorem dX7_runs_11 : decode cX7_runs 11 = .ok (.iinc 2 1, 3) := by decide +kernel
theorem dX7_runs_14 : decode cX7_runs 14 = .ok (.goto (-12), 3) := by decide +kernel
theorem dX7_runs_17 : decode cX7_runs 17 = .ok (.return_, 1) := by decide +kernel
set_option maxRecDepth 20000 in
theorem ggX7_passedWords_X7_ofWord : GoodIn wsX7_passedWords wsX7_ofWord := goodIn_r _ [5] (by decide +kernel) (by decide +kernel)
set_option maxRecDepth 20000 in
theorem gX7_passedWords_X7_ofWord : GoodIn wsX7_passedWords (va_wsS RX7 55 yX7_ofWord wsX7_ofWord) := goodIn_app (goodIn_of _ (by decide +kernel)) ggX7_passedWords_X7_ofWord
theorem dX7_passedWords_0 : decode cX7_passedWords 0 = .ok (.iconst 0, 1) := by decide +kernel
theorem dX7_passedWords_1 : decode cX7_passedWords 1 = .ok (.istore_n 1, 1) := by decide +kernel
theorem dX7_passedWords_2 : decode cX7_passedWords 2 = .ok (.iconst 0, 1) := by decide +kernel
theorem dX7_passedWords_3 : decode cX7_passedWords 3 = .ok (.istore_n 2, 1) := by decide +kernel
theorem dX7_passedWords_4 : decode cX7_passedWords 4 = .ok (.iload_n 2, 1) := by decide +kernel
theorem dX7_passedWords_5 : decode cX7_passedWords 5 = .ok (.aload_n 0, 1) := by decide +kernel
theorem dX7_passedWords_6 : decode cX7_passedWords 6 = .ok (.getfield 7, 3) := by decide +kernel
theorem dX7_passedWords_9 : decode cX7_passedWords 9 = .ok (.iconst 4, 1) := by decide +kernel
theorem dX7_passedWords_10 : decode cX7_passedWords 10 = .ok (.iaload, 1) := by decide +kernel
theorem dX7_passedWords_11 : decode cX7_passedWords 11 = .ok (.if_icmp .ge 22, 3) := by decide +kernel
theorem dX7_passedWords_14 : decode cX7_passedWords 14 = .ok (.iload_n 1, 1) := by decide +kernel
theorem dX7_passedWords_15 : decode cX7_passedWords 15 = .ok (.aload_n 0, 1) := by decide +kernel
theorem dX7_passedWords_16 : decode cX7_passedWords 16 = .ok (.getfield 7, 3) := by decide +kernel
theorem dX7_passedWords_19 : decode cX7_passedWords 19 = .ok (.iload_n 2, 1) := by decide +kernel
theorem dX7_passedWords_20 : decode cX7_passedWords 20 = .ok (.iconst 1, 1) := by decide +kernel
theorem dX7_passedWords_21 : decode cX7_passedWords 21 = .ok (.invokestatic 55, 3) := by decide +kernel
theorem dX7_passedWords_24 : decode cX7_passedWords 24 = .ok (.iaload, 1) := by decide +kernel
theorem dX7_passedWords_25 : decode cX7_passedWords 25 = .ok (.iadd, 1) := by decide +kernel
theorem dX7_passedWords_26 : decode cX7_passedWords 26 = .ok (.istore_n 1, 1) := by decide +kernel
theorem dX7_passedWords_27 : decode cX7_passedWords 27 = .ok (.iinc 2 1, 3) := by decide +kernel
theorem dX7_passedWords_30 : decode cX7_passedWords 30 = .ok (.goto (-26), 3) := by decide +kernel
theorem dX7_passedWords_33 : decode cX7_passedWords 33 = .ok (.iload_n 1, 1) := by decide +kernel
theorem dX7_passedWords_34 : decode cX7_passedWords 34 = .ok (.ireturn, 1) := by decide +kernel
set_option maxRecDepth 20000 in
theorem ggX7_backs_X7_ofWord : GoodIn wsX7_backs wsX7_ofWord := goodIn_r _ [5] (by decide +kernel) (by decide +kernel)
set_option maxRecDepth 20000 in
theorem gX7_backs_X7_ofWord : GoodIn wsX7_backs (va_wsS RX7 55 yX7_ofWord wsX7_ofWord) := goodIn_app (goodIn_of _ (by decide +kernel)) ggX7_backs_X7_ofWord
theorem dX7_backs_0 : decode cX7_backs 0 = .ok (.iconst 0, 1) := by decide +kernel
theorem dX7_backs_1 : decode cX7_backs 1 = .ok (.istore_n 1, 1) := by decide +kernel
theorem dX7_backs_2 : decode cX7_backs 2 = .ok (.iconst 0, 1) := by decide +kernel
theorem dX7_backs_3 : decode cX7_backs 3 = .ok (.istore_n 2, 1) := by decide +kernel
theorem dX7_backs_4 : decode cX7_backs 4 = .ok (.iload_n 2, 1) := by decide +kernel
theorem dX7_backs_5 : decode cX7_backs 5 = .ok (.aload_n 0, 1) := by decide +kernel
theorem dX7_backs_6 : decode cX7_backs 6 = .ok (.getfield 7, 3) := by decide +kernel
theorem dX7_backs_9 : decode cX7_backs 9 = .ok (.iconst 4, 1) := by decide +kernel
theorem dX7_backs_10 : decode cX7_backs 10 = .ok (.iaload, 1) := by decide +kernel
theorem dX7_backs_11 : decode cX7_backs 11 = .ok (.if_icmp .ge 22, 3) := by decide +kernel
theorem dX7_backs_14 : decode cX7_backs 14 = .ok (.iload_n 1, 1) := by decide +kernel
theorem dX7_backs_15 : decode cX7_backs 15 = .ok (.aload_n 0, 1) := by decide +kernel
theorem dX7_backs_16 : decode cX7_backs 16 = .ok (.getfield 7, 3) := by decide +kernel
theorem dX7_backs_19 : decode cX7_backs 19 = .ok (.iload_n 2, 1) := by decide +kernel
theorem dX7_backs_20 : decode cX7_backs 20 = .ok (.iconst 4, 1) := by decide +kernel
theorem dX7_backs_21 : decode cX7_backs 21 = .ok (.invokestatic 55, 3) := by decide +kernel
theorem dX7_backs_24 : decode cX7_backs 24 = .ok (.iaload, 1) := by decide +kernel
theorem dX7_backs_25 : decode cX7_backs 25 = .ok (.iadd, 1) := by decide +kernel
theorem dX7_backs_26 : decode cX7_backs 26 = .ok (.istore_n 1, 1) := by decide +kernel
theorem dX7_backs_27 : decode cX7_backs 27 = .ok (.iinc 2 1, 3) := by decide +kernel
theorem dX7_backs_30 : decode cX7_backs 30 = .ok (.goto (-26), 3) := by decide +kernel
theorem dX7_backs_33 : decode cX7_backs 33 = .ok (.iload_n 1, 1) := by decide +kernel
theorem dX7_backs_34 : decode cX7_backs 34 = .ok (.ireturn, 1) := by decide +kernel
set_option maxRecDepth 20000 in
theorem ggX7_tide_X7_isStore : GoodIn wsX7_tide wsX7_isStore := goodIn_r _ [5, 6, 7, 4, 8] (by decide +kernel) (by decide +kernel)
set_option maxRecDepth 20000 in
theorem gX7_tide_X7_isStore : GoodIn wsX7_tide (va_wsS RX7 89 yX7_isStore wsX7_isStore) := goodIn_app (goodIn_of _ (by decide +kernel)) ggX7_tide_X7_isStore
set_option maxRecDepth 20000 in
theorem ggX7_tide_X7_in : GoodIn wsX7_tide wsX7_in := goodIn_r _ [8] (by decide +kernel) (by decide +kernel)
set_option maxRecDepth 20000 in
theorem gX7_tide_X7_in : GoodIn wsX7_tide (va_wsS RX7 36 yX7_in wsX7_in) := goodIn_app (goodIn_of _ (by decide +kernel)) ggX7_tide_X7_in
set_option maxRecDepth 20000 in
theorem ggX7_tide_X7_record : GoodIn wsX7_tide wsX7_record := goodIn_r _ [12, 13, 14, 1, 22, 23, 24, 25, 26, 27, 28, 29] (by decide +kernel) (by decide +kernel)
set_option maxRecDepth 20000 in
theorem gX7_tide_X7_record : GoodIn wsX7_tide (wsV RX7 92 RX7 yX7_record wsX7_record) := goodIn_app (goodIn_of _ (by decide +kernel)) ggX7_tide_X7_record
set_option maxRecDepth 20000 in
theorem ggX7_tide_X7_ofStore : GoodIn wsX7_tide wsX7_ofStore := goodIn_r _ [17] (by decide +kernel) (by decide +kernel)
set_option maxRecDepth 20000 in
theorem gX7_tide_X7_ofStore : GoodIn wsX7_tide (va_wsS RX7 29 yX7_ofStore wsX7_ofStore) := goodIn_app (goodIn_of _ (by decide +kernel)) ggX7_tide_X7_ofStore
set_option maxRecDepth 20000 in
theorem ggX7_tide_X7_level : GoodIn wsX7_tide wsX7_level := goodIn_r _ [21, 1, 15, 16, 4, 17, 22, 23, 24, 25, 26, 27, 28, 29] (by decide +kernel) (by decide +kernel)
set_option maxRecDepth 20000 in
theorem gX7_tide_X7_level : GoodIn wsX7_tide (wsV RX7 44 RX7 yX7_level wsX7_level) := goodIn_app (goodIn_of _ (by decide +kernel)) ggX7_tide_X7_level
theorem dX7_tide_0 : decode cX7_tide 0 = .ok (.iload_n 1, 1) := by decide +kernel
theorem dX7_tide_1 : decode cX7_tide 1 = .ok (.invokestatic 89, 3) := by decide +kernel
theorem dX7_tide_4 : decode cX7_tide 4 = .ok (.ifCond .ne 7, 3) := by decide +kernel
theorem dX7_tide_7 : decode cX7_tide 7 = .ok (.sipush (-1001), 3) := by decide +kernel
theorem dX7_tide_10 : decode cX7_tide 10 = .ok (.ireturn, 1) := by decide +kernel
theorem dX7_tide_11 : decode cX7_tide 11 = .ok (.iload_n 2, 1) := by decide +kernel
theorem dX7_tide_12 : decode cX7_tide 12 = .ok (.iconst 0, 1) := by decide +kernel
theorem dX7_tide_13 : decode cX7_tide 13 = .ok (.sipush 300, 3) := by decide +kernel
theorem dX7_tide_16 : decode cX7_tide 16 = .ok (.invokestatic 36, 3) := by decide +kernel
theorem dX7_tide_19 : decode cX7_tide 19 = .ok (.ifCond .eq 24, 3) := by decide +kernel
theorem dX7_tide_22 : decode cX7_tide 22 = .ok (.iload_n 3, 1) := by decide +kernel
theorem dX7_tide_23 : decode cX7_tide 23 = .ok (.iconst 0, 1) := by decide +kernel
theorem dX7_tide_24 : decode cX7_tide 24 = .ok (.bipush 100, 2) := by decide +kernel
theorem dX7_tide_26 : decode cX7_tide 26 = .ok (.invokestatic 36, 3) := by decide +kernel
theorem dX7_tide_29 : decode cX7_tide 29 = .ok (.ifCond .eq 14, 3) := by decide +kernel
theorem dX7_tide_32 : decode cX7_tide 32 = .ok (.iload 4, 2) := by decide +kernel
theorem dX7_tide_34 : decode cX7_tide 34 = .ok (.iconst 2, 1) := by decide +kernel
theorem dX7_tide_35 : decode cX7_tide 35 = .ok (.bipush 60, 2) := by decide +kernel
theorem dX7_tide_37 : decode cX7_tide 37 = .ok (.invokestatic 36, 3) := by decide +kernel
theorem dX7_tide_40 : decode cX7_tide 40 = .ok (.ifCond .ne 7, 3) := by decide +kernel
theorem dX7_tide_43 : decode cX7_tide 43 = .ok (.sipush (-1002), 3) := by decide +kernel
theorem dX7_tide_46 : decode cX7_tide 46 = .ok (.ireturn, 1) := by decide +kernel
theorem dX7_tide_47 : decode cX7_tide 47 = .ok (.aload_n 0, 1) := by decide +kernel
theorem dX7_tide_48 : decode cX7_tide 48 = .ok (.invokevirtual 92, 3) := by decide +kernel
theorem dX7_tide_51 : decode cX7_tide 51 = .ok (.aload_n 0, 1) := by decide +kernel
theorem dX7_tide_52 : decode cX7_tide 52 = .ok (.getfield 7, 3) := by decide +kernel
theorem dX7_tide_55 : decode cX7_tide 55 = .ok (.iload_n 1, 1) := by decide +kernel
theorem dX7_tide_56 : decode cX7_tide 56 = .ok (.iconst 0, 1) := by decide +kernel
theorem dX7_tide_57 : decode cX7_tide 57 = .ok (.invokestatic 29, 3) := by decide +kernel
theorem dX7_tide_60 : decode cX7_tide 60 = .ok (.iload_n 2, 1) := by decide +kernel
theorem dX7_tide_61 : decode cX7_tide 61 = .ok (.iastore, 1) := by decide +kernel
theorem dX7_tide_62 : decode cX7_tide 62 = .ok (.aload_n 0, 1) := by decide +kernel
theorem dX7_tide_63 : decode cX7_tide 63 = .ok (.getfield 7, 3) := by decide +kernel
theorem dX7_tide_66 : decode cX7_tide 66 = .ok (.iload_n 1, 1) := by decide +kernel
theorem dX7_tide_67 : decode cX7_tide 67 = .ok (.iconst 1, 1) := by decide +kernel
theorem dX7_tide_68 : decode cX7_tide 68 = .ok (.invokestatic 29, 3) := by decide +kernel
theorem dX7_tide_71 : decode cX7_tide 71 = .ok (.iload_n 3, 1) := by decide +kernel
theorem dX7_tide_72 : decode cX7_tide 72 = .ok (.iastore, 1) := by decide +kernel
theorem dX7_tide_73 : decode cX7_tide 73 = .ok (.aload_n 0, 1) := by decide +kernel
theorem dX7_tide_74 : decode cX7_tide 74 = .ok (.getfield 7, 3) := by decide +kernel
theorem dX7_tide_77 : decode cX7_tide 77 = .ok (.iload_n 1, 1) := by decide +kernel
theorem dX7_tide_78 : decode cX7_tide 78 = .ok (.iconst 2, 1) := by decide +kernel
theorem dX7_tide_79 : decode cX7_tide 79 = .ok (.invokestatic 29, 3) := by decide +kernel
theorem dX7_tide_82 : decode cX7_tide 82 = .ok (.iload 4, 2) := by decide +kernel
theorem dX7_tide_84 : decode cX7_tide 84 = .ok (.iastore, 1) := by decide +kernel
theorem dX7_tide_85 : decode cX7_tide 85 = .ok (.aload_n 0, 1) := by decide +kernel
theorem dX7_tide_86 : decode cX7_tide 86 = .ok (.iload_n 1, 1) := by decide +kernel
theorem dX7_tide_87 : decode cX7_tide 87 = .ok (.aload_n 0, 1) := by decide +kernel
theorem dX7_tide_88 : decode cX7_tide 88 = .ok (.getfield 7, 3) := by decide +kernel
theorem dX7_tide_91 : decode cX7_tide 91 = .ok (.iconst 0, 1) := by decide +kernel
theorem dX7_tide_92 : decode cX7_tide 92 = .ok (.iaload, 1) := by decide +kernel
theorem dX7_tide_93 : decode cX7_tide 93 = .ok (.invokevirtual 44, 3) := by decide +kernel
theorem dX7_tide_96 : decode cX7_tide 96 = .ok (.ireturn, 1) := by decide +kernel
set_option maxRecDepth 20000 in
theorem ggX7_lays_X7_record : GoodIn wsX7_lays wsX7_record := goodIn_r _ [6, 7, 8, 1, 9, 10, 11, 12, 13, 14, 15, 16] (by decide +kernel) (by decide +kernel)
set_option maxRecDepth 20000 in
theorem gX7_lays_X7_record : GoodIn wsX7_lays (wsV RX7 92 RX7 yX7_record wsX7_record) := goodIn_app (goodIn_of _ (by decide +kernel)) ggX7_lays_X7_record
theorem dX7_lays_0 : decode cX7_lays 0 = .ok (.aload_n 0, 1) := by decide +kernel
theorem dX7_lays_1 : decode cX7_lays 1 = .ok (.invokevirtual 92, 3) := by decide +kernel
theorem dX7_lays_4 : decode cX7_lays 4 = .ok (.aload_n 0, 1) := by decide +kernel
theorem dX7_lays_5 : decode cX7_lays 5 = .ok (.getfield 7, 3) := by decide +kernel
theorem dX7_lays_8 : decode cX7_lays 8 = .ok (.iload_n 1, 1) := by decide +kernel
theorem dX7_lays_9 : decode cX7_lays 9 = .ok (.iaload, 1) := by decide +kernel
theorem dX7_lays_10 : decode cX7_lays 10 = .ok (.istore_n 3, 1) := by decide +kernel
theorem dX7_lays_11 : decode cX7_lays 11 = .ok (.aload_n 0, 1) := by decide +kernel
theorem dX7_lays_12 : decode cX7_lays 12 = .ok (.getfield 7, 3) := by decide +kernel
theorem dX7_lays_15 : decode cX7_lays 15 = .ok (.iload_n 1, 1) := by decide +kernel
theorem dX7_lays_16 : decode cX7_lays 16 = .ok (.iload_n 2, 1) := by decide +kernel
theorem dX7_lays_17 : decode cX7_lays 17 = .ok (.iastore, 1) := by decide +kernel
theorem dX7_lays_18 : decode cX7_lays 18 = .ok (.iload_n 3, 1) := by decide +kernel
theorem dX7_lays_19 : decode cX7_lays 19 = .ok (.ireturn, 1) := by decide +kernel
set_option maxRecDepth 20000 in
theorem ggX7_gauge_X7_isStore : GoodIn wsX7_gauge wsX7_isStore := goodIn_r _ [4, 5, 6, 3, 7] (by decide +kernel) (by decide +kernel)
set_option maxRecDepth 20000 in
theorem gX7_gauge_X7_isStore : GoodIn wsX7_gauge (va_wsS RX7 89 yX7_isStore wsX7_isStore) := goodIn_app (goodIn_of _ (by decide +kernel)) ggX7_gauge_X7_isStore
set_option maxRecDepth 20000 in
theorem ggX7_gauge_X7_in : GoodIn wsX7_gauge wsX7_in := goodIn_r _ [7] (by decide +kernel) (by decide +kernel)
set_option maxRecDepth 20000 in
theorem gX7_gauge_X7_in : GoodIn wsX7_gauge (va_wsS RX7 36 yX7_in wsX7_in) := goodIn_app (goodIn_of _ (by decide +kernel)) ggX7_gauge_X7_in
set_option maxRecDepth 20000 in
theorem ggX7_gauge_X7_ofStore : GoodIn wsX7_gauge wsX7_ofStore := goodIn_r _ [10] (by decide +kernel) (by decide +kernel)
set_option maxRecDepth 20000 in
theorem gX7_gauge_X7_ofStore : GoodIn wsX7_gauge (va_wsS RX7 29 yX7_ofStore wsX7_ofStore) := goodIn_app (goodIn_of _ (by decide +kernel)) ggX7_gauge_X7_ofStore
set_option maxRecDepth 20000 in
theorem ggX7_gauge_X7_lays : GoodIn wsX7_gauge wsX7_lays := goodIn_r _ [14, 15, 16, 17, 18, 3, 19, 20, 21, 22, 23, 24, 25, 26, 27, 28, 29] (by decide +kernel) (by decide +kernel)
set_option maxRecDepth 20000 in
theorem gX7_gauge_X7_lays : GoodIn wsX7_gauge (wsV RX7 95 RX7 yX7_lays wsX7_lays) := goodIn_app (goodIn_of _ (by decide +kernel)) ggX7_gauge_X7_lays
theorem dX7_gauge_0 : decode cX7_gauge 0 = .ok (.iload_n 1, 1) := by decide +kernel
theorem dX7_gauge_1 : decode cX7_gauge 1 = .ok (.invokestatic 89, 3) := by decide +kernel
theorem dX7_gauge_4 : decode cX7_gauge 4 = .ok (.ifCond .ne 7, 3) := by decide +kernel
theorem dX7_gauge_7 : decode cX7_gauge 7 = .ok (.sipush (-1001), 3) := by decide +kernel
theorem dX7_gauge_10 : decode cX7_gauge 10 = .ok (.ireturn, 1) := by decide +kernel
theorem dX7_gauge_11 : decode cX7_gauge 11 = .ok (.iload_n 2, 1) := by decide +kernel
theorem dX7_gauge_12 : decode cX7_gauge 12 = .ok (.bipush (-50), 2) := by decide +kernel
theorem dX7_gauge_14 : decode cX7_gauge 14 = .ok (.bipush 50, 2) := by decide +kernel
theorem dX7_gauge_16 : decode cX7_gauge 16 = .ok (.invokestatic 36, 3) := by decide +kernel
theorem dX7_gauge_19 : decode cX7_gauge 19 = .ok (.ifCond .eq 16, 3) := by decide +kernel
theorem dX7_gauge_22 : decode cX7_gauge 22 = .ok (.aload_n 0, 1) := by decide +kernel
theorem dX7_gauge_23 : decode cX7_gauge 23 = .ok (.iload_n 1, 1) := by decide +kernel
theorem dX7_gauge_24 : decode cX7_gauge 24 = .ok (.iconst 3, 1) := by decide +kernel
theorem dX7_gauge_25 : decode cX7_gauge 25 = .ok (.invokestatic 29, 3) := by decide +kernel
theorem dX7_gauge_28 : decode cX7_gauge 28 = .ok (.iload_n 2, 1) := by decide +kernel
theorem dX7_gauge_29 : decode cX7_gauge 29 = .ok (.invokevirtual 95, 3) := by decide +kernel
theorem dX7_gauge_32 : decode cX7_gauge 32 = .ok (.goto 6, 3) := by decide +kernel
theorem dX7_gauge_35 : decode cX7_gauge 35 = .ok (.sipush (-1002), 3) := by decide +kernel
theorem dX7_gauge_38 : decode cX7_gauge 38 = .ok (.ireturn, 1) := by decide +kernel
set_option maxRecDepth 20000 in
theorem ggX7_gate_X7_isGate : GoodIn wsX7_gate wsX7_isGate := goodIn_r _ [5, 6, 7, 4, 8] (by decide +kernel) (by decide +kernel)
set_option maxRecDepth 20000 in
theorem gX7_gate_X7_isGate : GoodIn wsX7_gate (va_wsS RX7 98 yX7_isGate wsX7_isGate) := goodIn_app (goodIn_of _ (by decide +kernel)) ggX7_gate_X7_isGate
set_option maxRecDepth 20000 in
theorem ggX7_gate_X7_in : GoodIn wsX7_gate wsX7_in := goodIn_r _ [8] (by decide +kernel) (by decide +kernel)
set_option maxRecDepth 20000 in
theorem gX7_gate_X7_in : GoodIn wsX7_gate (va_wsS RX7 36 yX7_in wsX7_in) := goodIn_app (goodIn_of _ (by decide +kernel)) ggX7_gate_X7_in
set_option maxRecDepth 20000 in
theorem ggX7_gate_X7_ofGate : GoodIn wsX7_gate wsX7_ofGate := goodIn_r _ [11] (by decide +kernel) (by decide +kernel)
set_option maxRecDepth 20000 in
theorem gX7_gate_X7_ofGate : GoodIn wsX7_gate (va_wsS RX7 33 yX7_ofGate wsX7_ofGate) := goodIn_app (goodIn_of _ (by decide +kernel)) ggX7_gate_X7_ofGate
set_option maxRecDepth 20000 in
theorem ggX7_gate_X7_lays : GoodIn wsX7_gate wsX7_lays := goodIn_r _ [15, 1, 16, 17, 18, 4, 19, 20, 21, 22, 23, 24, 25, 26, 27, 28, 29] (by decide +kernel) (by decide +kernel)
set_option maxRecDepth 20000 in
theorem gX7_gate_X7_lays : GoodIn wsX7_gate (wsV RX7 95 RX7 yX7_lays wsX7_lays) := goodIn_app (goodIn_of _ (by decide +kernel)) ggX7_gate_X7_lays
theorem dX7_gate_0 : decode cX7_gate 0 = .ok (.iload_n 1, 1) := by decide +kernel
theorem dX7_gate_1 : decode cX7_gate 1 = .ok (.invokestatic 98, 3) := by decide +kernel
theorem dX7_gate_4 : decode cX7_gate 4 = .ok (.ifCond .ne 7, 3) := by decide +kernel
theorem dX7_gate_7 : decode cX7_gate 7 = .ok (.sipush (-1001), 3) := by decide +kernel
theorem dX7_gate_10 : decode cX7_gate 10 = .ok (.ireturn, 1) := by decide +kernel
theorem dX7_gate_11 : decode cX7_gate 11 = .ok (.iload_n 2, 1) := by decide +kernel
theorem dX7_gate_12 : decode cX7_gate 12 = .ok (.iconst 0, 1) := by decide +kernel
theorem dX7_gate_13 : decode cX7_gate 13 = .ok (.iconst 1, 1) := by decide +kernel
theorem dX7_gate_14 : decode cX7_gate 14 = .ok (.invokestatic 36, 3) := by decide +kernel
theorem dX7_gate_17 : decode cX7_gate 17 = .ok (.ifCond .eq 23, 3) := by decide +kernel
theorem dX7_gate_20 : decode cX7_gate 20 = .ok (.iload_n 3, 1) := by decide +kernel
theorem dX7_gate_21 : decode cX7_gate 21 = .ok (.iconst 0, 1) := by decide +kernel
theorem dX7_gate_22 : decode cX7_gate 22 = .ok (.bipush 99, 2) := by decide +kernel
theorem dX7_gate_24 : decode cX7_gate 24 = .ok (.invokestatic 36, 3) := by decide +kernel
theorem dX7_gate_27 : decode cX7_gate 27 = .ok (.ifCond .eq 13, 3) := by decide +kernel
theorem dX7_gate_30 : decode cX7_gate 30 = .ok (.iload 4, 2) := by decide +kernel
theorem dX7_gate_32 : decode cX7_gate 32 = .ok (.iconst 0, 1) := by decide +kernel
theorem dX7_gate_33 : decode cX7_gate 33 = .ok (.iconst 1, 1) := by decide +kernel
theorem dX7_gate_34 : decode cX7_gate 34 = .ok (.invokestatic 36, 3) := by decide +kernel
theorem dX7_gate_37 : decode cX7_gate 37 = .ok (.ifCond .ne 7, 3) := by decide +kernel
theorem dX7_gate_40 : decode cX7_gate 40 = .ok (.sipush (-1002), 3) := by decide +kernel
theorem dX7_gate_43 : decode cX7_gate 43 = .ok (.ireturn, 1) := by decide +kernel
theorem dX7_gate_44 : decode cX7_gate 44 = .ok (.aload_n 0, 1) := by decide +kernel
theorem dX7_gate_45 : decode cX7_gate 45 = .ok (.getfield 7, 3) := by decide +kernel
theorem dX7_gate_48 : decode cX7_gate 48 = .ok (.iload_n 1, 1) := by decide +kernel
theorem dX7_gate_49 : decode cX7_gate 49 = .ok (.iconst 4, 1) := by decide +kernel
theorem dX7_gate_50 : decode cX7_gate 50 = .ok (.invokestatic 33, 3) := by decide +kernel
theorem dX7_gate_53 : decode cX7_gate 53 = .ok (.iaload, 1) := by decide +kernel
theorem dX7_gate_54 : decode cX7_gate 54 = .ok (.sipush (-1006), 3) := by decide +kernel
theorem dX7_gate_57 : decode cX7_gate 57 = .ok (.if_icmp .eq 21, 3) := by decide +kernel
theorem dX7_gate_60 : decode cX7_gate 60 = .ok (.aload_n 0, 1) := by decide +kernel
theorem dX7_gate_61 : decode cX7_gate 61 = .ok (.getfield 7, 3) := by decide +kernel
theorem dX7_gate_64 : decode cX7_gate 64 = .ok (.iload_n 1, 1) := by decide +kernel
theorem dX7_gate_65 : decode cX7_gate 65 = .ok (.iconst 0, 1) := by decide +kernel
theorem dX7_gate_66 : decode cX7_gate 66 = .ok (.invokestatic 33, 3) := by decide +kernel
theorem dX7_gate_69 : decode cX7_gate 69 = .ok (.iaload, 1) := by decide +kernel
theorem dX7_gate_70 : decode cX7_gate 70 = .ok (.iload_n 2, 1) := by decide +kernel
theorem dX7_gate_71 : decode cX7_gate 71 = .ok (.if_icmp .eq 7, 3) := by decide +kernel
theorem dX7_gate_74 : decode cX7_gate 74 = .ok (.sipush (-1005), 3) := by decide +kernel
theorem dX7_gate_77 : decode cX7_gate 77 = .ok (.ireturn, 1) := by decide +kernel
theorem dX7_gate_78 : decode cX7_gate 78 = .ok (.aload_n 0, 1) := by decide +kernel
theorem dX7_gate_79 : decode cX7_gate 79 = .ok (.iload_n 1, 1) := by decide +kernel
theorem dX7_gate_80 : decode cX7_gate 80 = .ok (.iconst 1, 1) := by decide +kernel
theorem dX7_gate_81 : decode cX7_gate 81 = .ok (.invokestatic 33, 3) := by decide +kernel
theorem dX7_gate_84 : decode cX7_gate 84 = .ok (.iload_n 3, 1) := by decide +kernel
theorem dX7_gate_85 : decode cX7_gate 85 = .ok (.invokevirtual 95, 3) := by decide +kernel
theorem dX7_gate_88 : decode cX7_gate 88 = .ok (.istore 5, 2) := by decide +kernel
theorem dX7_gate_90 : decode cX7_gate 90 = .ok (.aload_n 0, 1) := by decide +kernel
theorem dX7_gate_91 : decode cX7_gate 91 = .ok (.getfield 7, 3) := by decide +kernel
theorem dX7_gate_94 : decode cX7_gate 94 = .ok (.iload_n 1, 1) := by decide +kernel
theorem dX7_gate_95 : decode cX7_gate 95 = .ok (.iconst 0, 1) := by decide +kernel
theorem dX7_gate_96 : decode cX7_gate 96 = .ok (.invokestatic 33, 3) := by decide +kernel
theorem dX7_gate_99 : decode cX7_gate 99 = .ok (.iload_n 2, 1) := by decide +kernel
theorem dX7_gate_100 : decode cX7_gate 100 = .ok (.iastore, 1) := by decide +kernel
theorem dX7_gate_101 : decode cX7_gate 101 = .ok (.aload_n 0, 1) := by decide +kernel
theorem dX7_gate_102 : decode cX7_gate 102 = .ok (.getfield 7, 3) := by decide +kernel
theorem dX7_gate_105 : decode cX7_gate 105 = .ok (.iload_n 1, 1) := by decide +kernel
theorem dX7_gate_106 : decode cX7_gate 106 = .ok (.iconst 2, 1) := by decide +kernel
theorem dX7_gate_107 : decode cX7_gate 107 = .ok (.invokestatic 33, 3) := by decide +kernel
theorem dX7_gate_110 : decode cX7_gate 110 = .ok (.iload 4, 2) := by decide +kernel
theorem dX7_gate_112 : decode cX7_gate 112 = .ok (.iastore, 1) := by decide +kernel
theorem dX7_gate_113 : decode cX7_gate 113 = .ok (.iload 5, 2) := by decide +kernel
theorem dX7_gate_115 : decode cX7_gate 115 = .ok (.ireturn, 1) := by decide +kernel
set_option maxRecDepth 20000 in
theorem ggX7_shut_X7_isGate : GoodIn wsX7_shut wsX7_isGate := goodIn_r _ [5, 6, 7, 4, 8] (by decide +kernel) (by decide +kernel)
set_option maxRecDepth 20000 in
theorem gX7_shut_X7_isGate : GoodIn wsX7_shut (va_wsS RX7 98 yX7_isGate wsX7_isGate) := goodIn_app (goodIn_of _ (by decide +kernel)) ggX7_shut_X7_isGate
set_option maxRecDepth 20000 in
theorem ggX7_shut_X7_ofGate : GoodIn wsX7_shut wsX7_ofGate := goodIn_r _ [11] (by decide +kernel) (by decide +kernel)
set_option maxRecDepth 20000 in
theorem gX7_shut_X7_ofGate : GoodIn wsX7_shut (va_wsS RX7 33 yX7_ofGate wsX7_ofGate) := goodIn_app (goodIn_of _ (by decide +kernel)) ggX7_shut_X7_ofGate
set_option maxRecDepth 20000 in
theorem ggX7_shut_X7_lays : GoodIn wsX7_shut wsX7_lays := goodIn_r _ [15, 1, 16, 17, 18, 4, 19, 20, 21, 22, 23, 24, 25, 26, 27, 28, 29] (by decide +kernel) (by decide +kernel)
set_option maxRecDepth 20000 in
theorem gX7_shut_X7_lays : GoodIn wsX7_shut (wsV RX7 95 RX7 yX7_lays wsX7_lays) := goodIn_app (goodIn_of _ (by decide +kernel)) ggX7_shut_X7_lays
theorem dX7_shut_0 : decode cX7_shut 0 = .ok (.iload_n 1, 1) := by decide +kernel
theorem dX7_shut_1 : decode cX7_shut 1 = .ok (.invokestatic 98, 3) := by decide +kernel
theorem dX7_shut_4 : decode cX7_shut 4 = .ok (.ifCond .ne 7, 3) := by decide +kernel
theorem dX7_shut_7 : decode cX7_shut 7 = .ok (.sipush (-1001), 3) := by decide +kernel
theorem dX7_shut_10 : decode cX7_shut 10 = .ok (.ireturn, 1) := by decide +kernel
theorem dX7_shut_11 : decode cX7_shut 11 = .ok (.aload_n 0, 1) := by decide +kernel
theorem dX7_shut_12 : decode cX7_shut 12 = .ok (.getfield 7, 3) := by decide +kernel
theorem dX7_shut_15 : decode cX7_shut 15 = .ok (.iload_n 1, 1) := by decide +kernel
theorem dX7_shut_16 : decode cX7_shut 16 = .ok (.iconst 3, 1) := by decide +kernel
theorem dX7_shut_17 : decode cX7_shut 17 = .ok (.invokestatic 33, 3) := by decide +kernel
theorem dX7_shut_20 : decode cX7_shut 20 = .ok (.iaload, 1) := by decide +kernel
theorem dX7_shut_21 : decode cX7_shut 21 = .ok (.iload_n 2, 1) := by decide +kernel
theorem dX7_shut_22 : decode cX7_shut 22 = .ok (.ifCond .eq 7, 3) := by decide +kernel
theorem dX7_shut_25 : decode cX7_shut 25 = .ok (.iconst 1, 1) := by decide +kernel
theorem dX7_shut_26 : decode cX7_shut 26 = .ok (.goto 4, 3) := by decide +kernel
theorem dX7_shut_29 : decode cX7_shut 29 = .ok (.iconst 0, 1) := by decide +kernel
theorem dX7_shut_30 : decode cX7_shut 30 = .ok (.if_icmp .ne 7, 3) := by decide +kernel
theorem dX7_shut_33 : decode cX7_shut 33 = .ok (.sipush (-1005), 3) := by decide +kernel
theorem dX7_shut_36 : decode cX7_shut 36 = .ok (.ireturn, 1) := by decide +kernel
theorem dX7_shut_37 : decode cX7_shut 37 = .ok (.aload_n 0, 1) := by decide +kernel
theorem dX7_shut_38 : decode cX7_shut 38 = .ok (.iload_n 1, 1) := by decide +kernel
theorem dX7_shut_39 : decode cX7_shut 39 = .ok (.iconst 3, 1) := by decide +kernel
theorem dX7_shut_40 : decode cX7_shut 40 = .ok (.invokestatic 33, 3) := by decide +kernel
theorem dX7_shut_43 : decode cX7_shut 43 = .ok (.iload_n 2, 1) := by decide +kernel
theorem dX7_shut_44 : decode cX7_shut 44 = .ok (.ifCond .eq 7, 3) := by decide +kernel
theorem dX7_shut_47 : decode cX7_shut 47 = .ok (.iconst 1, 1) := by decide +kernel
theorem dX7_shut_48 : decode cX7_shut 48 = .ok (.goto 4, 3) := by decide +kernel
theorem dX7_shut_51 : decode cX7_shut 51 = .ok (.iconst 0, 1) := by decide +kernel
theorem dX7_shut_52 : decode cX7_shut 52 = .ok (.invokevirtual 95, 3) := by decide +kernel
theorem dX7_shut_55 : decode cX7_shut 55 = .ok (.istore_n 3, 1) := by decide +kernel
theorem dX7_shut_56 : decode cX7_shut 56 = .ok (.aload_n 0, 1) := by decide +kernel
theorem dX7_shut_57 : decode cX7_shut 57 = .ok (.getfield 7, 3) := by decide +kernel
theorem dX7_shut_60 : decode cX7_shut 60 = .ok (.iconst 0, 1) := by decide +kernel
theorem dX7_shut_61 : decode cX7_shut 61 = .ok (.iconst 3, 1) := by decide +kernel
theorem dX7_shut_62 : decode cX7_shut 62 = .ok (.invokestatic 33, 3) := by decide +kernel
theorem dX7_shut_65 : decode cX7_shut 65 = .ok (.iaload, 1) := by decide +kernel
theorem dX7_shut_66 : decode cX7_shut 66 = .ok (.aload_n 0, 1) := by decide +kernel
theorem dX7_shut_67 : decode cX7_shut 67 = .ok (.getfield 7, 3) := by decide +kernel
theorem dX7_shut_70 : decode cX7_shut 70 = .ok (.iconst 1, 1) := by decide +kernel
theorem dX7_shut_71 : decode cX7_shut 71 = .ok (.iconst 3, 1) := by decide +kernel
theorem dX7_shut_72 : decode cX7_shut 72 = .ok (.invokestatic 33, 3) := by decide +kernel
theorem dX7_shut_75 : decode cX7_shut 75 = .ok (.iaload, 1) := by decide +kernel
theorem dX7_shut_76 : decode cX7_shut 76 = .ok (.iadd, 1) := by decide +kernel
theorem dX7_shut_77 : decode cX7_shut 77 = .ok (.aload_n 0, 1) := by decide +kernel
theorem dX7_shut_78 : decode cX7_shut 78 = .ok (.getfield 7, 3) := by decide +kernel
theorem dX7_shut_81 : decode cX7_shut 81 = .ok (.iconst 2, 1) := by decide +kernel
theorem dX7_shut_82 : decode cX7_shut 82 = .ok (.iconst 3, 1) := by decide +kernel
theorem dX7_shut_83 : decode cX7_shut 83 = .ok (.invokestatic 33, 3) := by decide +kernel
theorem dX7_shut_86 : decode cX7_shut 86 = .ok (.iaload, 1) := by decide +kernel
theorem dX7_shut_87 : decode cX7_shut 87 = .ok (.iadd, 1) := by decide +kernel
theorem dX7_shut_88 : decode cX7_shut 88 = .ok (.aload_n 0, 1) := by decide +kernel
theorem dX7_shut_89 : decode cX7_shut 89 = .ok (.getfield 7, 3) := by decide +kernel
theorem dX7_shut_92 : decode cX7_shut 92 = .ok (.iconst 3, 1) := by decide +kernel
theorem dX7_shut_93 : decode cX7_shut 93 = .ok (.iconst 3, 1) := by decide +kernel
theorem dX7_shut_94 : decode cX7_shut 94 = .ok (.invokestatic 33, 3) := by decide +kernel
theorem dX7_shut_97 : decode cX7_shut 97 = .ok (.iaload, 1) := by decide +kernel
theorem dX7_shut_98 : decode cX7_shut 98 = .ok (.iadd, 1) := by decide +kernel
theorem dX7_shut_99 : decode cX7_shut 99 = .ok (.ireturn, 1) := by decide +kernel
set_option maxRecDepth 20000 in
theorem ggX7_run_X7_in : GoodIn wsX7_run wsX7_in := goodIn_r _ [6] (by decide +kernel) (by decide +kernel)
set_option maxRecDepth 20000 in
theorem gX7_run_X7_in : GoodIn wsX7_run (va_wsS RX7 36 yX7_in wsX7_in) := goodIn_app (goodIn_of _ (by decide +kernel)) ggX7_run_X7_in
set_option maxRecDepth 20000 in
theorem ggX7_run_X7_record : GoodIn wsX7_run wsX7_record := goodIn_r _ [10, 11, 12, 1, 77, 78, 79, 80, 81, 82, 83, 84] (by decide +kernel) (by decide +kernel)
set_option maxRecDepth 20000 in
theorem gX7_run_X7_record : GoodIn wsX7_run (wsV RX7 92 RX7 yX7_record wsX7_record) := goodIn_app (goodIn_of _ (by decide +kernel)) ggX7_run_X7_record
set_option maxRecDepth 20000 in
theorem ggX7_run_X7_passedWords : GoodIn wsX7_run wsX7_passedWords := goodIn_r _ [16, 1, 17, 18, 5, 19, 77, 78, 79, 80, 81, 82, 83, 84] (by decide +kernel) (by decide +kernel)
set_option maxRecDepth 20000 in
theorem gX7_run_X7_passedWords : GoodIn wsX7_run (wsV RX7 102 RX7 yX7_passedWords wsX7_passedWords) := goodIn_app (goodIn_of _ (by decide +kernel)) ggX7_run_X7_passedWords
set_option maxRecDepth 20000 in
theorem ggX7_run_X7_runs : GoodIn wsX7_run wsX7_runs := goodIn_r _ [23, 24, 25, 26, 5, 27, 1, 28, 29, 30, 31, 32, 33, 34, 35, 36, 37, 38, 39, 40, 41, 42, 43, 44, 45, 46, 47, 48, 49, 50, 51, 52, 53, 54, 55, 56, 57, 58, 59, 60, 61, 62, 63, 64, 17, 18, 19, 65, 66, 67, 68, 69, 70, 71, 72, 73, 74, 75, 76, 77, 78, 79, 80, 81, 82, 83, 84] (by decide +kernel) (by decide +kernel)
set_option maxRecDepth 20000 in
theorem gX7_run_X7_runs : GoodIn wsX7_run (wsV RX7 105 RX7 yX7_runs wsX7_runs) := goodIn_app (goodIn_of _ (by decide +kernel)) ggX7_run_X7_runs
theorem dX7_run_0 : decode cX7_run 0 = .ok (.iload_n 1, 1) := by decide +kernel
theorem dX7_run_1 : decode cX7_run 1 = .ok (.iconst 1, 1) := by decide +kernel
theorem dX7_run_2 : decode cX7_run 2 = .ok (.sipush 500, 3) := by decide +kernel
theorem dX7_run_5 : decode cX7_run 5 = .ok (.invokestatic 36, 3) := by decide +kernel
theorem dX7_run_8 : decode cX7_run 8 = .ok (.ifCond .ne 7, 3) := by decide +kernel
theorem dX7_run_11 : decode cX7_run 11 = .ok (.sipush (-1002), 3) := by decide +kernel
theorem dX7_run_14 : decode cX7_run 14 = .ok (.ireturn, 1) := by decide +kernel
theorem dX7_run_15 : decode cX7_run 15 = .ok (.aload_n 0, 1) := by decide +kernel
theorem dX7_run_16 : decode cX7_run 16 = .ok (.getfield 7, 3) := by decide +kernel
theorem dX7_run_19 : decode cX7_run 19 = .ok (.iconst 0, 1) := by decide +kernel
theorem dX7_run_20 : decode cX7_run 20 = .ok (.iaload, 1) := by decide +kernel
theorem dX7_run_21 : decode cX7_run 21 = .ok (.iload_n 1, 1) := by decide +kernel
theorem dX7_run_22 : decode cX7_run 22 = .ok (.iadd, 1) := by decide +kernel
theorem dX7_run_23 : decode cX7_run 23 = .ok (.ldc 101, 2) := by decide +kernel
theorem dX7_run_25 : decode cX7_run 25 = .ok (.if_icmp .le 7, 3) := by decide +kernel
theorem dX7_run_28 : decode cX7_run 28 = .ok (.sipush (-1004), 3) := by decide +kernel
theorem dX7_run_31 : decode cX7_run 31 = .ok (.ireturn, 1) := by decide +kernel
theorem dX7_run_32 : decode cX7_run 32 = .ok (.aload_n 0, 1) := by decide +kernel
theorem dX7_run_33 : decode cX7_run 33 = .ok (.invokevirtual 92, 3) := by decide +kernel
theorem dX7_run_36 : decode cX7_run 36 = .ok (.aload_n 0, 1) := by decide +kernel
theorem dX7_run_37 : decode cX7_run 37 = .ok (.invokevirtual 102, 3) := by decide +kernel
theorem dX7_run_40 : decode cX7_run 40 = .ok (.istore_n 2, 1) := by decide +kernel
theorem dX7_run_41 : decode cX7_run 41 = .ok (.aload_n 0, 1) := by decide +kernel
theorem dX7_run_42 : decode cX7_run 42 = .ok (.iload_n 1, 1) := by decide +kernel
theorem dX7_run_43 : decode cX7_run 43 = .ok (.invokevirtual 105, 3) := by decide +kernel
theorem dX7_run_46 : decode cX7_run 46 = .ok (.aload_n 0, 1) := by decide +kernel
theorem dX7_run_47 : decode cX7_run 47 = .ok (.invokevirtual 102, 3) := by decide +kernel
theorem dX7_run_50 : decode cX7_run 50 = .ok (.iload_n 2, 1) := by decide +kernel
theorem dX7_run_51 : decode cX7_run 51 = .ok (.isub, 1) := by decide +kernel
theorem dX7_run_52 : decode cX7_run 52 = .ok (.ireturn, 1) := by decide +kernel
set_option maxRecDepth 20000 in
theorem ggX7_sumOf_X7_inRow : GoodIn wsX7_sumOf wsX7_inRow := goodIn_r _ [5] (by decide +kernel) (by decide +kernel)
set_option maxRecDepth 20000 in
theorem gX7_sumOf_X7_inRow : GoodIn wsX7_sumOf (va_wsS RX7 61 yX7_inRow wsX7_inRow) := goodIn_app (goodIn_of _ (by decide +kernel)) ggX7_sumOf_X7_inRow
set_option maxRecDepth 20000 in
theorem ggX7_sumOf_X7_lettersOf : GoodIn wsX7_sumOf wsX7_lettersOf := goodIn_r _ [9, 1, 10, 11, 4, 12, 17, 18, 19, 20, 21, 22, 23, 24] (by decide +kernel) (by decide +kernel)
set_option maxRecDepth 20000 in
theorem gX7_sumOf_X7_lettersOf : GoodIn wsX7_sumOf (wsV RX7 58 RX7 yX7_lettersOf wsX7_lettersOf) := goodIn_app (goodIn_of _ (by decide +kernel)) ggX7_sumOf_X7_lettersOf
set_option maxRecDepth 20000 in
theorem ggX7_sumOf_X7_hasPassed : GoodIn wsX7_sumOf wsX7_hasPassed := goodIn_r _ [16, 1, 10, 11, 4, 12, 17, 18, 19, 20, 21, 22, 23, 24] (by decide +kernel) (by decide +kernel)
set_option maxRecDepth 20000 in
theorem gX7_sumOf_X7_hasPassed : GoodIn wsX7_sumOf (wsV RX7 64 RX7 yX7_hasPassed wsX7_hasPassed) := goodIn_app (goodIn_of _ (by decide +kernel)) ggX7_sumOf_X7_hasPassed
theorem dX7_sumOf_0 : decode cX7_sumOf 0 = .ok (.iconst 0, 1) := by decide +kernel
theorem dX7_sumOf_1 : decode cX7_sumOf 1 = .ok (.istore_n 3, 1) := by decide +kernel
theorem dX7_sumOf_2 : decode cX7_sumOf 2 = .ok (.iconst 0, 1) := by decide +kernel
theorem dX7_sumOf_3 : decode cX7_sumOf 3 = .ok (.istore 4, 2) := by decide +kernel
theorem dX7_sumOf_5 : decode cX7_sumOf 5 = .ok (.iload 4, 2) := by decide +kernel
theorem dX7_sumOf_7 : decode cX7_sumOf 7 = .ok (.aload_n 0, 1) := by decide +kernel
theorem dX7_sumOf_8 : decode cX7_sumOf 8 = .ok (.getfield 7, 3) := by decide +kernel
theorem dX7_sumOf_11 : decode cX7_sumOf 11 = .ok (.bipush 45, 2) := by decide +kernel
theorem dX7_sumOf_13 : decode cX7_sumOf 13 = .ok (.iload_n 1, 1) := by decide +kernel
theorem dX7_sumOf_14 : decode cX7_sumOf 14 = .ok (.iadd, 1) := by decide +kernel
theorem dX7_sumOf_15 : decode cX7_sumOf 15 = .ok (.iaload, 1) := by decide +kernel
theorem dX7_sumOf_16 : decode cX7_sumOf 16 = .ok (.if_icmp .ge 64, 3) := by decide +kernel
theorem dX7_sumOf_19 : decode cX7_sumOf 19 = .ok (.aload_n 0, 1) := by decide +kernel
theorem dX7_sumOf_20 : decode cX7_sumOf 20 = .ok (.getfield 7, 3) := by decide +kernel
theorem dX7_sumOf_23 : decode cX7_sumOf 23 = .ok (.iload_n 1, 1) := by decide +kernel
theorem dX7_sumOf_24 : decode cX7_sumOf 24 = .ok (.iload 4, 2) := by decide +kernel
theorem dX7_sumOf_26 : decode cX7_sumOf 26 = .ok (.invokestatic 61, 3) := by decide +kernel
theorem dX7_sumOf_29 : decode cX7_sumOf 29 = .ok (.iaload, 1) := by decide +kernel
theorem dX7_sumOf_30 : decode cX7_sumOf 30 = .ok (.istore 5, 2) := by decide +kernel
theorem dX7_sumOf_32 : decode cX7_sumOf 32 = .ok (.iload_n 3, 1) := by decide +kernel
theorem dX7_sumOf_33 : decode cX7_sumOf 33 = .ok (.iload_n 2, 1) := by decide +kernel
theorem dX7_sumOf_34 : decode cX7_sumOf 34 = .ok (.bipush 6, 2) := by decide +kernel
theorem dX7_sumOf_36 : decode cX7_sumOf 36 = .ok (.if_icmp .ne 7, 3) := by decide +kernel
theorem dX7_sumOf_39 : decode cX7_sumOf 39 = .ok (.iconst 1, 1) := by decide +kernel
theorem dX7_sumOf_40 : decode cX7_sumOf 40 = .ok (.goto 32, 3) := by decide +kernel
theorem dX7_sumOf_43 : decode cX7_sumOf 43 = .ok (.iload_n 2, 1) := by decide +kernel
theorem dX7_sumOf_44 : decode cX7_sumOf 44 = .ok (.bipush 7, 2) := by decide +kernel
theorem dX7_sumOf_46 : decode cX7_sumOf 46 = .ok (.if_icmp .ne 12, 3) := by decide +kernel
theorem dX7_sumOf_49 : decode cX7_sumOf 49 = .ok (.aload_n 0, 1) := by decide +kernel
theorem dX7_sumOf_50 : decode cX7_sumOf 50 = .ok (.iload 5, 2) := by decide +kernel
theorem dX7_sumOf_52 : decode cX7_sumOf 52 = .ok (.invokevirtual 58, 3) := by decide +kernel
theorem dX7_sumOf_55 : decode cX7_sumOf 55 = .ok (.goto 17, 3) := by decide +kernel
theorem dX7_sumOf_58 : decode cX7_sumOf 58 = .ok (.aload_n 0, 1) := by decide +kernel
theorem dX7_sumOf_59 : decode cX7_sumOf 59 = .ok (.iload 5, 2) := by decide +kernel
theorem dX7_sumOf_61 : decode cX7_sumOf 61 = .ok (.invokevirtual 64, 3) := by decide +kernel
theorem dX7_sumOf_64 : decode cX7_sumOf 64 = .ok (.ifCond .eq 7, 3) := by decide +kernel
theorem dX7_sumOf_67 : decode cX7_sumOf 67 = .ok (.iconst 0, 1) := by decide +kernel
theorem dX7_sumOf_68 : decode cX7_sumOf 68 = .ok (.goto 4, 3) := by decide +kernel
theorem dX7_sumOf_71 : decode cX7_sumOf 71 = .ok (.iconst 1, 1) := by decide +kernel
theorem dX7_sumOf_72 : decode cX7_sumOf 72 = .ok (.iadd, 1) := by decide +kernel
theorem dX7_sumOf_73 : decode cX7_sumOf 73 = .ok (.istore_n 3, 1) := by decide +kernel
theorem dX7_sumOf_74 : decode cX7_sumOf 74 = .ok (.iinc 4 1, 3) := by decide +kernel
theorem dX7_sumOf_77 : decode cX7_sumOf 77 = .ok (.goto (-72), 3) := by decide +kernel
theorem dX7_sumOf_80 : decode cX7_sumOf 80 = .ok (.iload_n 3, 1) := by decide +kernel
theorem dX7_sumOf_81 : decode cX7_sumOf 81 = .ok (.ireturn, 1) := by decide +kernel
set_option maxRecDepth 20000 in
theorem ggX7_store_X7_isStore : GoodIn wsX7_store wsX7_isStore := goodIn_r _ [5, 6, 7, 4, 8] (by decide +kernel) (by decide +kernel)
set_option maxRecDepth 20000 in
theorem gX7_store_X7_isStore : GoodIn wsX7_store (va_wsS RX7 89 yX7_isStore wsX7_isStore) := goodIn_app (goodIn_of _ (by decide +kernel)) ggX7_store_X7_isStore
set_option maxRecDepth 20000 in
theorem ggX7_store_X7_ofStore : GoodIn wsX7_store wsX7_ofStore := goodIn_r _ [11] (by decide +kernel) (by decide +kernel)
set_option maxRecDepth 20000 in
theorem gX7_store_X7_ofStore : GoodIn wsX7_store (va_wsS RX7 29 yX7_ofStore wsX7_ofStore) := goodIn_app (goodIn_of _ (by decide +kernel)) ggX7_store_X7_ofStore
set_option maxRecDepth 20000 in
theorem ggX7_store_X7_level : GoodIn wsX7_store wsX7_level := goodIn_r _ [15, 1, 9, 10, 4, 11, 34, 35, 36, 37, 38, 39, 40, 41] (by decide +kernel) (by decide +kernel)
set_option maxRecDepth 20000 in
theorem gX7_store_X7_level : GoodIn wsX7_store (wsV RX7 44 RX7 yX7_level wsX7_level) := goodIn_app (goodIn_of _ (by decide +kernel)) ggX7_store_X7_level
set_option maxRecDepth 20000 in
theorem ggX7_store_X7_sumOf : GoodIn wsX7_store wsX7_sumOf := goodIn_r _ [19, 1, 20, 21, 4, 22, 23, 24, 25, 26, 27, 28, 29, 30, 31, 32, 33, 34, 35, 36, 37, 38, 39, 40, 41] (by decide +kernel) (by decide +kernel)
set_option maxRecDepth 20000 in
theorem gX7_store_X7_sumOf : GoodIn wsX7_store (wsV RX7 108 RX7 yX7_sumOf wsX7_sumOf) := goodIn_app (goodIn_of _ (by decide +kernel)) ggX7_store_X7_sumOf
theorem dX7_store_0 : decode cX7_store 0 = .ok (.iload_n 1, 1) := by decide +kernel
theorem dX7_store_1 : decode cX7_store 1 = .ok (.invokestatic 89, 3) := by decide +kernel
theorem dX7_store_4 : decode cX7_store 4 = .ok (.ifCond .ne 7, 3) := by decide +kernel
theorem dX7_store_7 : decode cX7_store 7 = .ok (.sipush (-1001), 3) := by decide +kernel
theorem dX7_store_10 : decode cX7_store 10 = .ok (.ireturn, 1) := by decide +kernel
theorem dX7_store_11 : decode cX7_store 11 = .ok (.iload_n 2, 1) := by decide +kernel
theorem dX7_store_12 : decode cX7_store 12 = .ok (.tableswitch 105 0 8 #[52, 52, 52, 52, 63, 75, 98, 98, 98], 52) := by decide +kernel
theorem dX7_store_64 : decode cX7_store 64 = .ok (.aload_n 0, 1) := by decide +kernel
theorem dX7_store_65 : decode cX7_store 65 = .ok (.getfield 7, 3) := by decide +kernel
theorem dX7_store_68 : decode cX7_store 68 = .ok (.iload_n 1, 1) := by decide +kernel
theorem dX7_store_69 : decode cX7_store 69 = .ok (.iload_n 2, 1) := by decide +kernel
theorem dX7_store_70 : decode cX7_store 70 = .ok (.invokestatic 29, 3) := by decide +kernel
theorem dX7_store_73 : decode cX7_store 73 = .ok (.iaload, 1) := by decide +kernel
theorem dX7_store_74 : decode cX7_store 74 = .ok (.ireturn, 1) := by decide +kernel
theorem dX7_store_75 : decode cX7_store 75 = .ok (.aload_n 0, 1) := by decide +kernel
theorem dX7_store_76 : decode cX7_store 76 = .ok (.iload_n 1, 1) := by decide +kernel
theorem dX7_store_77 : decode cX7_store 77 = .ok (.aload_n 0, 1) := by decide +kernel
theorem dX7_store_78 : decode cX7_store 78 = .ok (.getfield 7, 3) := by decide +kernel
theorem dX7_store_81 : decode cX7_store 81 = .ok (.iconst 0, 1) := by decide +kernel
theorem dX7_store_82 : decode cX7_store 82 = .ok (.iaload, 1) := by decide +kernel
theorem dX7_store_83 : decode cX7_store 83 = .ok (.invokevirtual 44, 3) := by decide +kernel
theorem dX7_store_86 : decode cX7_store 86 = .ok (.ireturn, 1) := by decide +kernel
theorem dX7_store_87 : decode cX7_store 87 = .ok (.aload_n 0, 1) := by decide +kernel
theorem dX7_store_88 : decode cX7_store 88 = .ok (.iload_n 1, 1) := by decide +kernel
theorem dX7_store_89 : decode cX7_store 89 = .ok (.aload_n 0, 1) := by decide +kernel
theorem dX7_store_90 : decode cX7_store 90 = .ok (.getfield 7, 3) := by decide +kernel
theorem dX7_store_93 : decode cX7_store 93 = .ok (.iconst 0, 1) := by decide +kernel
theorem dX7_store_94 : decode cX7_store 94 = .ok (.iaload, 1) := by decide +kernel
theorem dX7_store_95 : decode cX7_store 95 = .ok (.invokevirtual 44, 3) := by decide +kernel
theorem dX7_store_98 : decode cX7_store 98 = .ok (.aload_n 0, 1) := by decide +kernel
theorem dX7_store_99 : decode cX7_store 99 = .ok (.getfield 7, 3) := by decide +kernel
theorem dX7_store_102 : decode cX7_store 102 = .ok (.iload_n 1, 1) := by decide +kernel
theorem dX7_store_103 : decode cX7_store 103 = .ok (.iconst 3, 1) := by decide +kernel
theorem dX7_store_104 : decode cX7_store 104 = .ok (.invokestatic 29, 3) := by decide +kernel
theorem dX7_store_107 : decode cX7_store 107 = .ok (.iaload, 1) := by decide +kernel
theorem dX7_store_108 : decode cX7_store 108 = .ok (.iadd, 1) := by decide +kernel
theorem dX7_store_109 : decode cX7_store 109 = .ok (.ireturn, 1) := by decide +kernel
theorem dX7_store_110 : decode cX7_store 110 = .ok (.aload_n 0, 1) := by decide +kernel
theorem dX7_store_111 : decode cX7_store 111 = .ok (.iload_n 1, 1) := by decide +kernel
theorem dX7_store_112 : decode cX7_store 112 = .ok (.iload_n 2, 1) := by decide +kernel
theorem dX7_store_113 : decode cX7_store 113 = .ok (.invokevirtual 108, 3) := by decide +kernel
theorem dX7_store_116 : decode cX7_store 116 = .ok (.ireturn, 1) := by decide +kernel
theorem dX7_store_117 : decode cX7_store 117 = .ok (.sipush (-1002), 3) := by decide +kernel
theorem dX7_store_120 : decode cX7_store 120 = .ok (.ireturn, 1) := by decide +kernel
set_option maxRecDepth 20000 in
theorem ggX7_gateOf_X7_isGate : GoodIn wsX7_gateOf wsX7_isGate := goodIn_r _ [5, 6, 7, 4, 8] (by decide +kernel) (by decide +kernel)
set_option maxRecDepth 20000 in
theorem gX7_gateOf_X7_isGate : GoodIn wsX7_gateOf (va_wsS RX7 98 yX7_isGate wsX7_isGate) := goodIn_app (goodIn_of _ (by decide +kernel)) ggX7_gateOf_X7_isGate
set_option maxRecDepth 20000 in
theorem ggX7_gateOf_X7_isOpen : GoodIn wsX7_gateOf wsX7_isOpen := goodIn_r _ [12, 1, 13, 14, 4, 15, 16, 17, 18, 19, 20, 21, 22, 23, 24, 25, 26, 27, 28, 29, 30, 31, 32, 33, 34] (by decide +kernel) (by decide +kernel)
set_option maxRecDepth 20000 in
theorem gX7_gateOf_X7_isOpen : GoodIn wsX7_gateOf (wsV RX7 51 RX7 yX7_isOpen wsX7_isOpen) := goodIn_app (goodIn_of _ (by decide +kernel)) ggX7_gateOf_X7_isOpen
set_option maxRecDepth 20000 in
theorem ggX7_gateOf_X7_in : GoodIn wsX7_gateOf wsX7_in := goodIn_r _ [8] (by decide +kernel) (by decide +kernel)
set_option maxRecDepth 20000 in
theorem gX7_gateOf_X7_in : GoodIn wsX7_gateOf (va_wsS RX7 36 yX7_in wsX7_in) := goodIn_app (goodIn_of _ (by decide +kernel)) ggX7_gateOf_X7_in
set_option maxRecDepth 20000 in
theorem ggX7_gateOf_X7_ofGate : GoodIn wsX7_gateOf wsX7_ofGate := goodIn_r _ [15] (by decide +kernel) (by decide +kernel)
set_option maxRecDepth 20000 in
theorem gX7_gateOf_X7_ofGate : GoodIn wsX7_gateOf (va_wsS RX7 33 yX7_ofGate wsX7_ofGate) := goodIn_app (goodIn_of _ (by decide +kernel)) ggX7_gateOf_X7_ofGate
theorem dX7_gateOf_0 : decode cX7_gateOf 0 = .ok (.iload_n 1, 1) := by decide +kernel
theorem dX7_gateOf_1 : decode cX7_gateOf 1 = .ok (.invokestatic 98, 3) := by decide +kernel
theorem dX7_gateOf_4 : decode cX7_gateOf 4 = .ok (.ifCond .ne 7, 3) := by decide +kernel
theorem dX7_gateOf_7 : decode cX7_gateOf 7 = .ok (.sipush (-1001), 3) := by decide +kernel
theorem dX7_gateOf_10 : decode cX7_gateOf 10 = .ok (.ireturn, 1) := by decide +kernel
theorem dX7_gateOf_11 : decode cX7_gateOf 11 = .ok (.iload_n 2, 1) := by decide +kernel
theorem dX7_gateOf_12 : decode cX7_gateOf 12 = .ok (.iconst 4, 1) := by decide +kernel
theorem dX7_gateOf_13 : decode cX7_gateOf 13 = .ok (.if_icmp .ne 23, 3) := by decide +kernel
theorem dX7_gateOf_16 : decode cX7_gateOf 16 = .ok (.aload_n 0, 1) := by decide +kernel
theorem dX7_gateOf_17 : decode cX7_gateOf 17 = .ok (.iload_n 1, 1) := by decide +kernel
theorem dX7_gateOf_18 : decode cX7_gateOf 18 = .ok (.aload_n 0, 1) := by decide +kernel
theorem dX7_gateOf_19 : decode cX7_gateOf 19 = .ok (.getfield 7, 3) := by decide +kernel
theorem dX7_gateOf_22 : decode cX7_gateOf 22 = .ok (.iconst 0, 1) := by decide +kernel
theorem dX7_gateOf_23 : decode cX7_gateOf 23 = .ok (.iaload, 1) := by decide +kernel
theorem dX7_gateOf_24 : decode cX7_gateOf 24 = .ok (.invokevirtual 51, 3) := by decide +kernel
theorem dX7_gateOf_27 : decode cX7_gateOf 27 = .ok (.ifCond .eq 7, 3) := by decide +kernel
theorem dX7_gateOf_30 : decode cX7_gateOf 30 = .ok (.iconst 1, 1) := by decide +kernel
theorem dX7_gateOf_31 : decode cX7_gateOf 31 = .ok (.goto 4, 3) := by decide +kernel
theorem dX7_gateOf_34 : decode cX7_gateOf 34 = .ok (.iconst 0, 1) := by decide +kernel
theorem dX7_gateOf_35 : decode cX7_gateOf 35 = .ok (.ireturn, 1) := by decide +kernel
theorem dX7_gateOf_36 : decode cX7_gateOf 36 = .ok (.iload_n 2, 1) := by decide +kernel
theorem dX7_gateOf_37 : decode cX7_gateOf 37 = .ok (.iconst 0, 1) := by decide +kernel
theorem dX7_gateOf_38 : decode cX7_gateOf 38 = .ok (.iconst 3, 1) := by decide +kernel
theorem dX7_gateOf_39 : decode cX7_gateOf 39 = .ok (.invokestatic 36, 3) := by decide +kernel
theorem dX7_gateOf_42 : decode cX7_gateOf 42 = .ok (.ifCond .eq 16, 3) := by decide +kernel
theorem dX7_gateOf_45 : decode cX7_gateOf 45 = .ok (.aload_n 0, 1) := by decide +kernel
theorem dX7_gateOf_46 : decode cX7_gateOf 46 = .ok (.getfield 7, 3) := by decide +kernel
theorem dX7_gateOf_49 : decode cX7_gateOf 49 = .ok (.iload_n 1, 1) := by decide +kernel
theorem dX7_gateOf_50 : decode cX7_gateOf 50 = .ok (.iload_n 2, 1) := by decide +kernel
theorem dX7_gateOf_51 : decode cX7_gateOf 51 = .ok (.invokestatic 33, 3) := by decide +kernel
theorem dX7_gateOf_54 : decode cX7_gateOf 54 = .ok (.iaload, 1) := by decide +kernel
theorem dX7_gateOf_55 : decode cX7_gateOf 55 = .ok (.goto 31, 3) := by decide +kernel
theorem dX7_gateOf_58 : decode cX7_gateOf 58 = .ok (.iload_n 2, 1) := by decide +kernel
theorem dX7_gateOf_59 : decode cX7_gateOf 59 = .ok (.iconst 5, 1) := by decide +kernel
theorem dX7_gateOf_60 : decode cX7_gateOf 60 = .ok (.bipush 8, 2) := by decide +kernel
theorem dX7_gateOf_62 : decode cX7_gateOf 62 = .ok (.invokestatic 36, 3) := by decide +kernel
theorem dX7_gateOf_65 : decode cX7_gateOf 65 = .ok (.ifCond .eq 18, 3) := by decide +kernel
theorem dX7_gateOf_68 : decode cX7_gateOf 68 = .ok (.aload_n 0, 1) := by decide +kernel
theorem dX7_gateOf_69 : decode cX7_gateOf 69 = .ok (.getfield 7, 3) := by decide +kernel
theorem dX7_gateOf_72 : decode cX7_gateOf 72 = .ok (.iload_n 1, 1) := by decide +kernel
theorem dX7_gateOf_73 : decode cX7_gateOf 73 = .ok (.iload_n 2, 1) := by decide +kernel
theorem dX7_gateOf_74 : decode cX7_gateOf 74 = .ok (.iconst 1, 1) := by decide +kernel
theorem dX7_gateOf_75 : decode cX7_gateOf 75 = .ok (.isub, 1) := by decide +kernel
theorem dX7_gateOf_76 : decode cX7_gateOf 76 = .ok (.invokestatic 33, 3) := by decide +kernel
theorem dX7_gateOf_79 : decode cX7_gateOf 79 = .ok (.iaload, 1) := by decide +kernel
theorem dX7_gateOf_80 : decode cX7_gateOf 80 = .ok (.goto 6, 3) := by decide +kernel
theorem dX7_gateOf_83 : decode cX7_gateOf 83 = .ok (.sipush (-1002), 3) := by decide +kernel
theorem dX7_gateOf_86 : decode cX7_gateOf 86 = .ok (.ireturn, 1) := by decide +kernel
set_option maxRecDepth 20000 in
theorem ggX7_whereIs_X7_inRow : GoodIn wsX7_whereIs wsX7_inRow := goodIn_r _ [5] (by decide +kernel) (by decide +kernel)
set_option maxRecDepth 20000 in
theorem gX7_whereIs_X7_inRow : GoodIn wsX7_whereIs (va_wsS RX7 61 yX7_inRow wsX7_inRow) := goodIn_app (goodIn_of _ (by decide +kernel)) ggX7_whereIs_X7_inRow
set_option maxRecDepth 20000 in
theorem ggX7_whereIs_X7_ofGate : GoodIn wsX7_whereIs wsX7_ofGate := goodIn_r _ [8] (by decide +kernel) (by decide +kernel)
set_option maxRecDepth 20000 in
theorem gX7_whereIs_X7_ofGate : GoodIn wsX7_whereIs (va_wsS RX7 33 yX7_ofGate wsX7_ofGate) := goodIn_app (goodIn_of _ (by decide +kernel)) ggX7_whereIs_X7_ofGate
theorem dX7_whereIs_0 : decode cX7_whereIs 0 = .ok (.iconst 0, 1) := by decide +kernel
theorem dX7_whereIs_1 : decode cX7_whereIs 1 = .ok (.istore_n 2, 1) := by decide +kernel
theorem dX7_whereIs_2 : decode cX7_whereIs 2 = .ok (.iconst 0, 1) := by decide +kernel
theorem dX7_whereIs_3 : decode cX7_whereIs 3 = .ok (.istore_n 3, 1) := by decide +kernel
theorem dX7_whereIs_4 : decode cX7_whereIs 4 = .ok (.iload_n 3, 1) := by decide +kernel
theorem dX7_whereIs_5 : decode cX7_whereIs 5 = .ok (.aload_n 0, 1) := by decide +kernel
theorem dX7_whereIs_6 : decode cX7_whereIs 6 = .ok (.getfield 7, 3) := by decide +kernel
theorem dX7_whereIs_9 : decode cX7_whereIs 9 = .ok (.bipush 45, 2) := by decide +kernel
theorem dX7_whereIs_11 : decode cX7_whereIs 11 = .ok (.iaload, 1) := by decide +kernel
theorem dX7_whereIs_12 : decode cX7_whereIs 12 = .ok (.if_icmp .ge 29, 3) := by decide +kernel
theorem dX7_whereIs_15 : decode cX7_whereIs 15 = .ok (.aload_n 0, 1) := by decide +kernel
theorem dX7_whereIs_16 : decode cX7_whereIs 16 = .ok (.getfield 7, 3) := by decide +kernel
theorem dX7_whereIs_19 : decode cX7_whereIs 19 = .ok (.iconst 0, 1) := by decide +kernel
theorem dX7_whereIs_20 : decode cX7_whereIs 20 = .ok (.iload_n 3, 1) := by decide +kernel
theorem dX7_whereIs_21 : decode cX7_whereIs 21 = .ok (.invokestatic 61, 3) := by decide +kernel
theorem dX7_whereIs_24 : decode cX7_whereIs 24 = .ok (.iaload, 1) := by decide +kernel
theorem dX7_whereIs_25 : decode cX7_whereIs 25 = .ok (.iload_n 1, 1) := by decide +kernel
theorem dX7_whereIs_26 : decode cX7_whereIs 26 = .ok (.if_icmp .ne 7, 3) := by decide +kernel
theorem dX7_whereIs_29 : decode cX7_whereIs 29 = .ok (.iload_n 3, 1) := by decide +kernel
theorem dX7_whereIs_30 : decode cX7_whereIs 30 = .ok (.goto 4, 3) := by decide +kernel
theorem dX7_whereIs_33 : decode cX7_whereIs 33 = .ok (.iload_n 2, 1) := by decide +kernel
theorem dX7_whereIs_34 : decode cX7_whereIs 34 = .ok (.istore_n 2, 1) := by decide +kernel
theorem dX7_whereIs_35 : decode cX7_whereIs 35 = .ok (.iinc 3 1, 3) := by decide +kernel
theorem dX7_whereIs_38 : decode cX7_whereIs 38 = .ok (.goto (-34), 3) := by decide +kernel
theorem dX7_whereIs_41 : decode cX7_whereIs 41 = .ok (.iconst 0, 1) := by decide +kernel
theorem dX7_whereIs_42 : decode cX7_whereIs 42 = .ok (.istore_n 3, 1) := by decide +kernel
theorem dX7_whereIs_43 : decode cX7_whereIs 43 = .ok (.iload_n 3, 1) := by decide +kernel
theorem dX7_whereIs_44 : decode cX7_whereIs 44 = .ok (.aload_n 0, 1) := by decide +kernel
theorem dX7_whereIs_45 : decode cX7_whereIs 45 = .ok (.getfield 7, 3) := by decide +kernel
theorem dX7_whereIs_48 : decode cX7_whereIs 48 = .ok (.bipush 46, 2) := by decide +kernel
theorem dX7_whereIs_50 : decode cX7_whereIs 50 = .ok (.iaload, 1) := by decide +kernel
theorem dX7_whereIs_51 : decode cX7_whereIs 51 = .ok (.if_icmp .ge 32, 3) := by decide +kernel
theorem dX7_whereIs_54 : decode cX7_whereIs 54 = .ok (.aload_n 0, 1) := by decide +kernel
theorem dX7_whereIs_55 : decode cX7_whereIs 55 = .ok (.getfield 7, 3) := by decide +kernel
theorem dX7_whereIs_58 : decode cX7_whereIs 58 = .ok (.iconst 1, 1) := by decide +kernel
theorem dX7_whereIs_59 : decode cX7_whereIs 59 = .ok (.iload_n 3, 1) := by decide +kernel
theorem dX7_whereIs_60 : decode cX7_whereIs 60 = .ok (.invokestatic 61, 3) := by decide +kernel
theorem dX7_whereIs_63 : decode cX7_whereIs 63 = .ok (.iaload, 1) := by decide +kernel
theorem dX7_whereIs_64 : decode cX7_whereIs 64 = .ok (.iload_n 1, 1) := by decide +kernel
theorem dX7_whereIs_65 : decode cX7_whereIs 65 = .ok (.if_icmp .ne 10, 3) := by decide +kernel
theorem dX7_whereIs_68 : decode cX7_whereIs 68 = .ok (.bipush 100, 2) := by decide +kernel
theorem dX7_whereIs_70 : decode cX7_whereIs 70 = .ok (.iload_n 3, 1) := by decide +kernel
theorem dX7_whereIs_71 : decode cX7_whereIs 71 = .ok (.iadd, 1) := by decide +kernel
theorem dX7_whereIs_72 : decode cX7_whereIs 72 = .ok (.goto 4, 3) := by decide +kernel
theorem dX7_whereIs_75 : decode cX7_whereIs 75 = .ok (.iload_n 2, 1) := by decide +kernel
theorem dX7_whereIs_76 : decode cX7_whereIs 76 = .ok (.istore_n 2, 1) := by decide +kernel
theorem dX7_whereIs_77 : decode cX7_whereIs 77 = .ok (.iinc 3 1, 3) := by decide +kernel
theorem dX7_whereIs_80 : decode cX7_whereIs 80 = .ok (.goto (-37), 3) := by decide +kernel
theorem dX7_whereIs_83 : decode cX7_whereIs 83 = .ok (.iconst 0, 1) := by decide +kernel
theorem dX7_whereIs_84 : decode cX7_whereIs 84 = .ok (.istore_n 3, 1) := by decide +kernel
theorem dX7_whereIs_85 : decode cX7_whereIs 85 = .ok (.iload_n 3, 1) := by decide +kernel
theorem dX7_whereIs_86 : decode cX7_whereIs 86 = .ok (.iconst 4, 1) := by decide +kernel
theorem dX7_whereIs_87 : decode cX7_whereIs 87 = .ok (.if_icmp .ge 36, 3) := by decide +kernel
theorem dX7_whereIs_90 : decode cX7_whereIs 90 = .ok (.aload_n 0, 1) := by decide +kernel
theorem dX7_whereIs_91 : decode cX7_whereIs 91 = .ok (.getfield 7, 3) := by decide +kernel
theorem dX7_whereIs_94 : decode cX7_whereIs 94 = .ok (.iload_n 3, 1) := by decide +kernel
theorem dX7_whereIs_95 : decode cX7_whereIs 95 = .ok (.iconst 4, 1) := by decide +kernel
theorem dX7_whereIs_96 : decode cX7_whereIs 96 = .ok (.invokestatic 33, 3) := by decide +kernel
theorem dX7_whereIs_99 : decode cX7_whereIs 99 = .ok (.iaload, 1) := by decide +kernel
theorem dX7_whereIs_100 : decode cX7_whereIs 100 = .ok (.iload_n 1, 1) := by decide +kernel
theorem dX7_whereIs_101 : decode cX7_whereIs 101 = .ok (.if_icmp .ne 14, 3) := by decide +kernel
theorem dX7_whereIs_104 : decode cX7_whereIs 104 = .ok (.sipush 299, 3) := by decide +kernel
theorem dX7_whereIs_107 : decode cX7_whereIs 107 = .ok (.bipush 100, 2) := by decide +kernel
theorem dX7_whereIs_109 : decode cX7_whereIs 109 = .ok (.iload_n 3, 1) := by decide +kernel
theorem dX7_whereIs_110 : decode cX7_whereIs 110 = .ok (.imul, 1) := by decide +kernel
theorem dX7_whereIs_111 : decode cX7_whereIs 111 = .ok (.iadd, 1) := by decide +kernel
theorem dX7_whereIs_112 : decode cX7_whereIs 112 = .ok (.goto 4, 3) := by decide +kernel
theorem dX7_whereIs_115 : decode cX7_whereIs 115 = .ok (.iload_n 2, 1) := by decide +kernel
theorem dX7_whereIs_116 : decode cX7_whereIs 116 = .ok (.istore_n 2, 1) := by decide +kernel
theorem dX7_whereIs_117 : decode cX7_whereIs 117 = .ok (.iinc 3 1, 3) := by decide +kernel
theorem dX7_whereIs_120 : decode cX7_whereIs 120 = .ok (.goto (-35), 3) := by decide +kernel
theorem dX7_whereIs_123 : decode cX7_whereIs 123 = .ok (.iload_n 2, 1) := by decide +kernel
theorem dX7_whereIs_124 : decode cX7_whereIs 124 = .ok (.ireturn, 1) := by decide +kernel
set_option maxRecDepth 20000 in
theorem ggX7_word_X7_isWord : GoodIn wsX7_word wsX7_isWord := goodIn_r _ [6, 1, 7, 8, 5, 9, 31, 32, 33, 34, 35, 36, 37, 38] (by decide +kernel) (by decide +kernel)
set_option maxRecDepth 20000 in
theorem gX7_word_X7_isWord : GoodIn wsX7_word (wsV RX7 111 RX7 yX7_isWord wsX7_isWord) := goodIn_app (goodIn_of _ (by decide +kernel)) ggX7_word_X7_isWord
set_option maxRecDepth 20000 in
theorem ggX7_word_X7_whereIs : GoodIn wsX7_word wsX7_whereIs := goodIn_r _ [13, 1, 14, 15, 5, 16, 17, 18, 19, 31, 32, 33, 34, 35, 36, 37, 38] (by decide +kernel) (by decide +kernel)
set_option maxRecDepth 20000 in
theorem gX7_word_X7_whereIs : GoodIn wsX7_word (wsV RX7 114 RX7 yX7_whereIs wsX7_whereIs) := goodIn_app (goodIn_of _ (by decide +kernel)) ggX7_word_X7_whereIs
set_option maxRecDepth 20000 in
theorem ggX7_word_X7_lettersOf : GoodIn wsX7_word wsX7_lettersOf := goodIn_r _ [23, 1, 24, 25, 5, 26, 31, 32, 33, 34, 35, 36, 37, 38] (by decide +kernel) (by decide +kernel)
set_option maxRecDepth 20000 in
theorem gX7_word_X7_lettersOf : GoodIn wsX7_word (wsV RX7 58 RX7 yX7_lettersOf wsX7_lettersOf) := goodIn_app (goodIn_of _ (by decide +kernel)) ggX7_word_X7_lettersOf
set_option maxRecDepth 20000 in
theorem ggX7_word_X7_ofWord : GoodIn wsX7_word wsX7_ofWord := goodIn_r _ [26] (by decide +kernel) (by decide +kernel)
set_option maxRecDepth 20000 in
theorem gX7_word_X7_ofWord : GoodIn wsX7_word (va_wsS RX7 55 yX7_ofWord wsX7_ofWord) := goodIn_app (goodIn_of _ (by decide +kernel)) ggX7_word_X7_ofWord
set_option maxRecDepth 20000 in
theorem ggX7_word_X7_letterOf : GoodIn wsX7_word wsX7_letterOf := goodIn_r _ [30, 1, 24, 25, 5, 26, 20, 21, 22, 23, 7, 8, 9, 31, 32, 33, 34, 35, 36, 37, 38] (by decide +kernel) (by decide +kernel)
set_option maxRecDepth 20000 in
theorem gX7_word_X7_letterOf : GoodIn wsX7_word (wsV RX7 117 RX7 yX7_letterOf wsX7_letterOf) := goodIn_app (goodIn_of _ (by decide +kernel)) ggX7_word_X7_letterOf
theorem dX7_word_0 : decode cX7_word 0 = .ok (.aload_n 0, 1) := by decide +kernel
theorem dX7_word_1 : decode cX7_word 1 = .ok (.iload_n 1, 1) := by decide +kernel
theorem dX7_word_2 : decode cX7_word 2 = .ok (.invokevirtual 111, 3) := by decide +kernel
theorem dX7_word_5 : decode cX7_word 5 = .ok (.ifCond .ne 7, 3) := by decide +kernel
theorem dX7_word_8 : decode cX7_word 8 = .ok (.sipush (-1001), 3) := by decide +kernel
theorem dX7_word_11 : decode cX7_word 11 = .ok (.ireturn, 1) := by decide +kernel
theorem dX7_word_12 : decode cX7_word 12 = .ok (.iload_n 2, 1) := by decide +kernel
theorem dX7_word_13 : decode cX7_word 13 = .ok (.tableswitch 99 0 6 #[43, 52, 80, 86, 86, 86, 86], 43) := by decide +kernel
theorem dX7_word_56 : decode cX7_word 56 = .ok (.aload_n 0, 1) := by decide +kernel
theorem dX7_word_57 : decode cX7_word 57 = .ok (.iload_n 1, 1) := by decide +kernel
theorem dX7_word_58 : decode cX7_word 58 = .ok (.invokevirtual 114, 3) := by decide +kernel
theorem dX7_word_61 : decode cX7_word 61 = .ok (.bipush 100, 2) := by decide +kernel
theorem dX7_word_63 : decode cX7_word 63 = .ok (.idiv, 1) := by decide +kernel
theorem dX7_word_64 : decode cX7_word 64 = .ok (.ireturn, 1) := by decide +kernel
theorem dX7_word_65 : decode cX7_word 65 = .ok (.aload_n 0, 1) := by decide +kernel
theorem dX7_word_66 : decode cX7_word 66 = .ok (.iload_n 1, 1) := by decide +kernel
theorem dX7_word_67 : decode cX7_word 67 = .ok (.invokevirtual 114, 3) := by decide +kernel
theorem dX7_word_70 : decode cX7_word 70 = .ok (.bipush 100, 2) := by decide +kernel
theorem dX7_word_72 : decode cX7_word 72 = .ok (.irem, 1) := by decide +kernel
theorem dX7_word_73 : decode cX7_word 73 = .ok (.bipush 99, 2) := by decide +kernel
theorem dX7_word_75 : decode cX7_word 75 = .ok (.if_icmp .ne 9, 3) := by decide +kernel
theorem dX7_word_78 : decode cX7_word 78 = .ok (.sipush (-1006), 3) := by decide +kernel
theorem dX7_word_81 : decode cX7_word 81 = .ok (.goto 11, 3) := by decide +kernel
theorem dX7_word_84 : decode cX7_word 84 = .ok (.aload_n 0, 1) := by decide +kernel
theorem dX7_word_85 : decode cX7_word 85 = .ok (.iload_n 1, 1) := by decide +kernel
theorem dX7_word_86 : decode cX7_word 86 = .ok (.invokevirtual 114, 3) := by decide +kernel
theorem dX7_word_89 : decode cX7_word 89 = .ok (.bipush 100, 2) := by decide +kernel
theorem dX7_word_91 : decode cX7_word 91 = .ok (.irem, 1) := by decide +kernel
theorem dX7_word_92 : decode cX7_word 92 = .ok (.ireturn, 1) := by decide +kernel
theorem dX7_word_93 : decode cX7_word 93 = .ok (.aload_n 0, 1) := by decide +kernel
theorem dX7_word_94 : decode cX7_word 94 = .ok (.iload_n 1, 1) := by decide +kernel
theorem dX7_word_95 : decode cX7_word 95 = .ok (.invokevirtual 58, 3) := by decide +kernel
theorem dX7_word_98 : decode cX7_word 98 = .ok (.ireturn, 1) := by decide +kernel
theorem dX7_word_99 : decode cX7_word 99 = .ok (.aload_n 0, 1) := by decide +kernel
theorem dX7_word_100 : decode cX7_word 100 = .ok (.getfield 7, 3) := by decide +kernel
theorem dX7_word_103 : decode cX7_word 103 = .ok (.iload_n 1, 1) := by decide +kernel
theorem dX7_word_104 : decode cX7_word 104 = .ok (.iload_n 2, 1) := by decide +kernel
theorem dX7_word_105 : decode cX7_word 105 = .ok (.iconst 2, 1) := by decide +kernel
theorem dX7_word_106 : decode cX7_word 106 = .ok (.isub, 1) := by decide +kernel
theorem dX7_word_107 : decode cX7_word 107 = .ok (.invokestatic 55, 3) := by decide +kernel
theorem dX7_word_110 : decode cX7_word 110 = .ok (.iaload, 1) := by decide +kernel
theorem dX7_word_111 : decode cX7_word 111 = .ok (.ireturn, 1) := by decide +kernel
theorem dX7_word_112 : decode cX7_word 112 = .ok (.iload_n 2, 1) := by decide +kernel
theorem dX7_word_113 : decode cX7_word 113 = .ok (.ifCond .ge 9, 3) := by decide +kernel
theorem dX7_word_116 : decode cX7_word 116 = .ok (.sipush (-1002), 3) := by decide +kernel
theorem dX7_word_119 : decode cX7_word 119 = .ok (.goto 12, 3) := by decide +kernel
theorem dX7_word_122 : decode cX7_word 122 = .ok (.aload_n 0, 1) := by decide +kernel
theorem dX7_word_123 : decode cX7_word 123 = .ok (.iload_n 1, 1) := by decide +kernel
theorem dX7_word_124 : decode cX7_word 124 = .ok (.iload_n 2, 1) := by decide +kernel
theorem dX7_word_125 : decode cX7_word 125 = .ok (.bipush 7, 2) := by decide +kernel
theorem dX7_word_127 : decode cX7_word 127 = .ok (.isub, 1) := by decide +kernel
theorem dX7_word_128 : decode cX7_word 128 = .ok (.invokevirtual 117, 3) := by decide +kernel
theorem dX7_word_131 : decode cX7_word 131 = .ok (.ireturn, 1) := by decide +kernel
set_option maxRecDepth 20000 in
theorem ggX7_at_X7_isStore : GoodIn wsX7_at wsX7_isStore := goodIn_r _ [5, 6, 7, 4, 8] (by decide +kernel) (by decide +kernel)
set_option maxRecDepth 20000 in
theorem gX7_at_X7_isStore : GoodIn wsX7_at (va_wsS RX7 89 yX7_isStore wsX7_isStore) := goodIn_app (goodIn_of _ (by decide +kernel)) ggX7_at_X7_isStore
set_option maxRecDepth 20000 in
theorem ggX7_at_X7_in : GoodIn wsX7_at wsX7_in := goodIn_r _ [8] (by decide +kernel) (by decide +kernel)
set_option maxRecDepth 20000 in
theorem gX7_at_X7_in : GoodIn wsX7_at (va_wsS RX7 36 yX7_in wsX7_in) := goodIn_app (goodIn_of _ (by decide +kernel)) ggX7_at_X7_in
set_option maxRecDepth 20000 in
theorem ggX7_at_X7_inRow : GoodIn wsX7_at wsX7_inRow := goodIn_r _ [11] (by decide +kernel) (by decide +kernel)
set_option maxRecDepth 20000 in
theorem gX7_at_X7_inRow : GoodIn wsX7_at (va_wsS RX7 61 yX7_inRow wsX7_inRow) := goodIn_app (goodIn_of _ (by decide +kernel)) ggX7_at_X7_inRow
theorem dX7_at_0 : decode cX7_at 0 = .ok (.iload_n 1, 1) := by decide +kernel
theorem dX7_at_1 : decode cX7_at 1 = .ok (.invokestatic 89, 3) := by decide +kernel
theorem dX7_at_4 : decode cX7_at 4 = .ok (.ifCond .eq 35, 3) := by decide +kernel
theorem dX7_at_7 : decode cX7_at 7 = .ok (.iload_n 2, 1) := by decide +kernel
theorem dX7_at_8 : decode cX7_at 8 = .ok (.iconst 0, 1) := by decide +kernel
theorem dX7_at_9 : decode cX7_at 9 = .ok (.aload_n 0, 1) := by decide +kernel
theorem dX7_at_10 : decode cX7_at 10 = .ok (.getfield 7, 3) := by decide +kernel
theorem dX7_at_13 : decode cX7_at 13 = .ok (.bipush 45, 2) := by decide +kernel
theorem dX7_at_15 : decode cX7_at 15 = .ok (.iload_n 1, 1) := by decide +kernel
theorem dX7_at_16 : decode cX7_at 16 = .ok (.iadd, 1) := by decide +kernel
theorem dX7_at_17 : decode cX7_at 17 = .ok (.iaload, 1) := by decide +kernel
theorem dX7_at_18 : decode cX7_at 18 = .ok (.iconst 1, 1) := by decide +kernel
theorem dX7_at_19 : decode cX7_at 19 = .ok (.isub, 1) := by decide +kernel
theorem dX7_at_20 : decode cX7_at 20 = .ok (.invokestatic 36, 3) := by decide +kernel
theorem dX7_at_23 : decode cX7_at 23 = .ok (.ifCond .eq 16, 3) := by decide +kernel
theorem dX7_at_26 : decode cX7_at 26 = .ok (.aload_n 0, 1) := by decide +kernel
theorem dX7_at_27 : decode cX7_at 27 = .ok (.getfield 7, 3) := by decide +kernel
theorem dX7_at_30 : decode cX7_at 30 = .ok (.iload_n 1, 1) := by decide +kernel
theorem dX7_at_31 : decode cX7_at 31 = .ok (.iload_n 2, 1) := by decide +kernel
theorem dX7_at_32 : decode cX7_at 32 = .ok (.invokestatic 61, 3) := by decide +kernel
theorem dX7_at_35 : decode cX7_at 35 = .ok (.iaload, 1) := by decide +kernel
theorem dX7_at_36 : decode cX7_at 36 = .ok (.goto 6, 3) := by decide +kernel
theorem dX7_at_39 : decode cX7_at 39 = .ok (.sipush (-1001), 3) := by decide +kernel
theorem dX7_at_42 : decode cX7_at 42 = .ok (.ireturn, 1) := by decide +kernel
set_option maxRecDepth 20000 in
theorem ggX7_inGates_X7_ofGate : GoodIn wsX7_inGates wsX7_ofGate := goodIn_r _ [5] (by decide +kernel) (by decide +kernel)
set_option maxRecDepth 20000 in
theorem gX7_inGates_X7_ofGate : GoodIn wsX7_inGates (va_wsS RX7 33 yX7_ofGate wsX7_ofGate) := goodIn_app (goodIn_of _ (by decide +kernel)) ggX7_inGates_X7_ofGate
theorem dX7_inGates_0 : decode cX7_inGates 0 = .ok (.iconst 0, 1) := by decide +kernel
theorem dX7_inGates_1 : decode cX7_inGates 1 = .ok (.istore_n 1, 1) := by decide +kernel
theorem dX7_inGates_2 : decode cX7_inGates 2 = .ok (.iconst 0, 1) := by decide +kernel
theorem dX7_inGates_3 : decode cX7_inGates 3 = .ok (.istore_n 2, 1) := by decide +kernel
theorem dX7_inGates_4 : decode cX7_inGates 4 = .ok (.iload_n 2, 1) := by decide +kernel
theorem dX7_inGates_5 : decode cX7_inGates 5 = .ok (.iconst 4, 1) := by decide +kernel
theorem dX7_inGates_6 : decode cX7_inGates 6 = .ok (.if_icmp .ge 33, 3) := by decide +kernel
theorem dX7_inGates_9 : decode cX7_inGates 9 = .ok (.iload_n 1, 1) := by decide +kernel
theorem dX7_inGates_10 : decode cX7_inGates 10 = .ok (.aload_n 0, 1) := by decide +kernel
theorem dX7_inGates_11 : decode cX7_inGates 11 = .ok (.getfield 7, 3) := by decide +kernel
theorem dX7_inGates_14 : decode cX7_inGates 14 = .ok (.iload_n 2, 1) := by decide +kernel
theorem dX7_inGates_15 : decode cX7_inGates 15 = .ok (.iconst 4, 1) := by decide +kernel
theorem dX7_inGates_16 : decode cX7_inGates 16 = .ok (.invokestatic 33, 3) := by decide +kernel
theorem dX7_inGates_19 : decode cX7_inGates 19 = .ok (.iaload, 1) := by decide +kernel
theorem dX7_inGates_20 : decode cX7_inGates 20 = .ok (.sipush (-1006), 3) := by decide +kernel
theorem dX7_inGates_23 : decode cX7_inGates 23 = .ok (.if_icmp .ne 7, 3) := by decide +kernel
theorem dX7_inGates_26 : decode cX7_inGates 26 = .ok (.iconst 0, 1) := by decide +kernel
theorem dX7_inGates_27 : decode cX7_inGates 27 = .ok (.goto 4, 3) := by decide +kernel
theorem dX7_inGates_30 : decode cX7_inGates 30 = .ok (.iconst 1, 1) := by decide +kernel
theorem dX7_inGates_31 : decode cX7_inGates 31 = .ok (.iadd, 1) := by decide +kernel
theorem dX7_inGates_32 : decode cX7_inGates 32 = .ok (.istore_n 1, 1) := by decide +kernel
theorem dX7_inGates_33 : decode cX7_inGates 33 = .ok (.iinc 2 1, 3) := by decide +kernel
theorem dX7_inGates_36 : decode cX7_inGates 36 = .ok (.goto (-32), 3) := by decide +kernel
theorem dX7_inGates_39 : decode cX7_inGates 39 = .ok (.iload_n 1, 1) := by decide +kernel
theorem dX7_inGates_40 : decode cX7_inGates 40 = .ok (.ireturn, 1) := by decide +kernel
set_option maxRecDepth 20000 in
theorem ggX7_count_X7_passedWords : GoodIn wsX7_count wsX7_passedWords := goodIn_r _ [8, 1, 9, 10, 7, 11, 38, 39, 40, 41, 42, 43, 44, 45] (by decide +kernel) (by decide +kernel)
set_option maxRecDepth 20000 in
theorem gX7_count_X7_passedWords : GoodIn wsX7_count (wsV RX7 102 RX7 yX7_passedWords wsX7_passedWords) := goodIn_app (goodIn_of _ (by decide +kernel)) ggX7_count_X7_passedWords
set_option maxRecDepth 20000 in
theorem ggX7_count_X7_inGates : GoodIn wsX7_count wsX7_inGates := goodIn_r _ [15, 1, 16, 17, 7, 18, 38, 39, 40, 41, 42, 43, 44, 45] (by decide +kernel) (by decide +kernel)
set_option maxRecDepth 20000 in
theorem gX7_count_X7_inGates : GoodIn wsX7_count (wsV RX7 120 RX7 yX7_inGates wsX7_inGates) := goodIn_app (goodIn_of _ (by decide +kernel)) ggX7_count_X7_inGates
set_option maxRecDepth 20000 in
theorem ggX7_count_X7_openNow : GoodIn wsX7_count wsX7_openNow := goodIn_r _ [22, 1, 23, 24, 25, 7, 26, 16, 17, 18, 27, 28, 29, 30, 31, 32, 33, 34, 35, 36, 37, 38, 39, 40, 41, 42, 43, 44, 45] (by decide +kernel) (by decide +kernel)
set_option maxRecDepth 20000 in
theorem gX7_count_X7_openNow : GoodIn wsX7_count (wsV RX7 78 RX7 yX7_openNow wsX7_openNow) := goodIn_app (goodIn_of _ (by decide +kernel)) ggX7_count_X7_openNow
theorem dX7_count_0 : decode cX7_count 0 = .ok (.iload_n 1, 1) := by decide +kernel
theorem dX7_count_1 : decode cX7_count 1 = .ok (.tableswitch 133 0 10 #[59, 66, 73, 78, 95, 100, 100, 111, 116, 123, 128], 59) := by decide +kernel
theorem dX7_count_60 : decode cX7_count 60 = .ok (.aload_n 0, 1) := by decide +kernel
theorem dX7_count_61 : decode cX7_count 61 = .ok (.getfield 7, 3) := by decide +kernel
theorem dX7_count_64 : decode cX7_count 64 = .ok (.iconst 0, 1) := by decide +kernel
theorem dX7_count_65 : decode cX7_count 65 = .ok (.iaload, 1) := by decide +kernel
theorem dX7_count_66 : decode cX7_count 66 = .ok (.ireturn, 1) := by decide +kernel
theorem dX7_count_67 : decode cX7_count 67 = .ok (.aload_n 0, 1) := by decide +kernel
theorem dX7_count_68 : decode cX7_count 68 = .ok (.getfield 7, 3) := by decide +kernel
theorem dX7_count_71 : decode cX7_count 71 = .ok (.iconst 4, 1) := by decide +kernel
theorem dX7_count_72 : decode cX7_count 72 = .ok (.iaload, 1) := by decide +kernel
theorem dX7_count_73 : decode cX7_count 73 = .ok (.ireturn, 1) := by decide +kernel
theorem dX7_count_74 : decode cX7_count 74 = .ok (.aload_n 0, 1) := by decide +kernel
theorem dX7_count_75 : decode cX7_count 75 = .ok (.invokevirtual 102, 3) := by decide +kernel
theorem dX7_count_78 : decode cX7_count 78 = .ok (.ireturn, 1) := by decide +kernel
theorem dX7_count_79 : decode cX7_count 79 = .ok (.aload_n 0, 1) := by decide +kernel
theorem dX7_count_80 : decode cX7_count 80 = .ok (.getfield 7, 3) := by decide +kernel
theorem dX7_count_83 : decode cX7_count 83 = .ok (.iconst 4, 1) := by decide +kernel
theorem dX7_count_84 : decode cX7_count 84 = .ok (.iaload, 1) := by decide +kernel
theorem dX7_count_85 : decode cX7_count 85 = .ok (.aload_n 0, 1) := by decide +kernel
theorem dX7_count_86 : decode cX7_count 86 = .ok (.invokevirtual 102, 3) := by decide +kernel
theorem dX7_count_89 : decode cX7_count 89 = .ok (.isub, 1) := by decide +kernel
theorem dX7_count_90 : decode cX7_count 90 = .ok (.aload_n 0, 1) := by decide +kernel
theorem dX7_count_91 : decode cX7_count 91 = .ok (.invokevirtual 120, 3) := by decide +kernel
theorem dX7_count_94 : decode cX7_count 94 = .ok (.isub, 1) := by decide +kernel
theorem dX7_count_95 : decode cX7_count 95 = .ok (.ireturn, 1) := by decide +kernel
theorem dX7_count_96 : decode cX7_count 96 = .ok (.aload_n 0, 1) := by decide +kernel
theorem dX7_count_97 : decode cX7_count 97 = .ok (.invokevirtual 120, 3) := by decide +kernel
theorem dX7_count_100 : decode cX7_count 100 = .ok (.ireturn, 1) := by decide +kernel
theorem dX7_count_101 : decode cX7_count 101 = .ok (.aload_n 0, 1) := by decide +kernel
theorem dX7_count_102 : decode cX7_count 102 = .ok (.getfield 7, 3) := by decide +kernel
theorem dX7_count_105 : decode cX7_count 105 = .ok (.iconst 2, 1) := by decide +kernel
theorem dX7_count_106 : decode cX7_count 106 = .ok (.iload_n 1, 1) := by decide +kernel
theorem dX7_count_107 : decode cX7_count 107 = .ok (.iadd, 1) := by decide +kernel
theorem dX7_count_108 : decode cX7_count 108 = .ok (.iconst 5, 1) := by decide +kernel
theorem dX7_count_109 : decode cX7_count 109 = .ok (.isub, 1) := by decide +kernel
theorem dX7_count_110 : decode cX7_count 110 = .ok (.iaload, 1) := by decide +kernel
theorem dX7_count_111 : decode cX7_count 111 = .ok (.ireturn, 1) := by decide +kernel
theorem dX7_count_112 : decode cX7_count 112 = .ok (.aload_n 0, 1) := by decide +kernel
theorem dX7_count_113 : decode cX7_count 113 = .ok (.invokevirtual 78, 3) := by decide +kernel
theorem dX7_count_116 : decode cX7_count 116 = .ok (.ireturn, 1) := by decide +kernel
theorem dX7_count_117 : decode cX7_count 117 = .ok (.aload_n 0, 1) := by decide +kernel
theorem dX7_count_118 : decode cX7_count 118 = .ok (.getfield 7, 3) := by decide +kernel
theorem dX7_count_121 : decode cX7_count 121 = .ok (.iconst 1, 1) := by decide +kernel
theorem dX7_count_122 : decode cX7_count 122 = .ok (.iaload, 1) := by decide +kernel
theorem dX7_count_123 : decode cX7_count 123 = .ok (.ireturn, 1) := by decide +kernel
theorem dX7_count_124 : decode cX7_count 124 = .ok (.aload_n 0, 1) := by decide +kernel
theorem dX7_count_125 : decode cX7_count 125 = .ok (.getfield 123, 3) := by decide +kernel
theorem dX7_count_128 : decode cX7_count 128 = .ok (.ireturn, 1) := by decide +kernel
theorem dX7_count_129 : decode cX7_count 129 = .ok (.aload_n 0, 1) := by decide +kernel
theorem dX7_count_130 : decode cX7_count 130 = .ok (.getfield 40, 3) := by decide +kernel
theorem dX7_count_133 : decode cX7_count 133 = .ok (.ireturn, 1) := by decide +kernel
theorem dX7_count_134 : decode cX7_count 134 = .ok (.sipush (-1002), 3) := by decide +kernel
theorem dX7_count_137 : decode cX7_count 137 = .ok (.ireturn, 1) := by decide +kernel
set_option maxRecDepth 20000 in
theorem ggX7_opensIn_X7_isOpen : GoodIn wsX7_opensIn wsX7_isOpen := goodIn_r _ [6, 1, 7, 8, 5, 9, 10, 11, 12, 13, 14, 15, 16, 17, 18, 19, 20, 21, 22, 23, 24, 25, 26, 27, 28] (by decide +kernel) (by decide +kernel)
set_option maxRecDepth 20000 in
theorem gX7_opensIn_X7_isOpen : GoodIn wsX7_opensIn (wsV RX7 51 RX7 yX7_isOpen wsX7_isOpen) := goodIn_app (goodIn_of _ (by decide +kernel)) ggX7_opensIn_X7_isOpen
theorem dX7_opensIn_0 : decode cX7_opensIn 0 = .ok (.iconst 0, 1) := by decide +kernel
theorem dX7_opensIn_1 : decode cX7_opensIn 1 = .ok (.istore_n 2, 1) := by decide +kernel
theorem dX7_opensIn_2 : decode cX7_opensIn 2 = .ok (.iload_n 2, 1) := by decide +kernel
theorem dX7_opensIn_3 : decode cX7_opensIn 3 = .ok (.sipush 4000, 3) := by decide +kernel
theorem dX7_opensIn_6 : decode cX7_opensIn 6 = .ok (.if_icmp .ge 27, 3) := by decide +kernel
theorem dX7_opensIn_9 : decode cX7_opensIn 9 = .ok (.aload_n 0, 1) := by decide +kernel
theorem dX7_opensIn_10 : decode cX7_opensIn 10 = .ok (.iload_n 1, 1) := by decide +kernel
theorem dX7_opensIn_11 : decode cX7_opensIn 11 = .ok (.aload_n 0, 1) := by decide +kernel
theorem dX7_opensIn_12 : decode cX7_opensIn 12 = .ok (.getfield 7, 3) := by decide +kernel
theorem dX7_opensIn_15 : decode cX7_opensIn 15 = .ok (.iconst 0, 1) := by decide +kernel
theorem dX7_opensIn_16 : decode cX7_opensIn 16 = .ok (.iaload, 1) := by decide +kernel
theorem dX7_opensIn_17 : decode cX7_opensIn 17 = .ok (.iload_n 2, 1) := by decide +kernel
theorem dX7_opensIn_18 : decode cX7_opensIn 18 = .ok (.iadd, 1) := by decide +kernel
theorem dX7_opensIn_19 : decode cX7_opensIn 19 = .ok (.invokevirtual 51, 3) := by decide +kernel
theorem dX7_opensIn_22 : decode cX7_opensIn 22 = .ok (.ifCond .eq 5, 3) := by decide +kernel
theorem dX7_opensIn_25 : decode cX7_opensIn 25 = .ok (.iload_n 2, 1) := by decide +kernel
theorem dX7_opensIn_26 : decode cX7_opensIn 26 = .ok (.ireturn, 1) := by decide +kernel
theorem dX7_opensIn_27 : decode cX7_opensIn 27 = .ok (.iinc 2 1, 3) := by decide +kernel
theorem dX7_opensIn_30 : decode cX7_opensIn 30 = .ok (.goto (-28), 3) := by decide +kernel
theorem dX7_opensIn_33 : decode cX7_opensIn 33 = .ok (.sipush (-1006), 3) := by decide +kernel
theorem dX7_opensIn_36 : decode cX7_opensIn 36 = .ok (.ireturn, 1) := by decide +kernel
set_option maxRecDepth 20000 in
theorem ggX7_untilOpen_X7_isGate : GoodIn wsX7_untilOpen wsX7_isGate := goodIn_r _ [4, 5, 6, 3, 7] (by decide +kernel) (by decide +kernel)
set_option maxRecDepth 20000 in
theorem gX7_untilOpen_X7_isGate : GoodIn wsX7_untilOpen (va_wsS RX7 98 yX7_isGate wsX7_isGate) := goodIn_app (goodIn_of _ (by decide +kernel)) ggX7_untilOpen_X7_isGate
set_option maxRecDepth 20000 in
theorem ggX7_untilOpen_X7_opensIn : GoodIn wsX7_untilOpen wsX7_opensIn := goodIn_r _ [11, 12, 13, 14, 15, 3, 16, 17, 18, 19, 20, 21, 22, 23, 24, 25, 26, 27, 28, 29, 30, 31, 32, 33, 34, 35, 36, 37, 38] (by decide +kernel) (by decide +kernel)
set_option maxRecDepth 20000 in
theorem gX7_untilOpen_X7_opensIn : GoodIn wsX7_untilOpen (wsV RX7 126 RX7 yX7_opensIn wsX7_opensIn) := goodIn_app (goodIn_of _ (by decide +kernel)) ggX7_untilOpen_X7_opensIn
theorem dX7_untilOpen_0 : decode cX7_untilOpen 0 = .ok (.iload_n 1, 1) := by decide +kernel
theorem dX7_untilOpen_1 : decode cX7_untilOpen 1 = .ok (.invokestatic 98, 3) := by decide +kernel
theorem dX7_untilOpen_4 : decode cX7_untilOpen 4 = .ok (.ifCond .eq 11, 3) := by decide +kernel
theorem dX7_untilOpen_7 : decode cX7_untilOpen 7 = .ok (.aload_n 0, 1) := by decide +kernel
theorem dX7_untilOpen_8 : decode cX7_untilOpen 8 = .ok (.iload_n 1, 1) := by decide +kernel
theorem dX7_untilOpen_9 : decode cX7_untilOpen 9 = .ok (.invokevirtual 126, 3) := by decide +kernel
theorem dX7_untilOpen_12 : decode cX7_untilOpen 12 = .ok (.goto 6, 3) := by decide +kernel
theorem dX7_untilOpen_15 : decode cX7_untilOpen 15 = .ok (.sipush (-1001), 3) := by decide +kernel
theorem dX7_untilOpen_18 : decode cX7_untilOpen 18 = .ok (.ireturn, 1) := by decide +kernel
set_option maxRecDepth 20000 in
theorem ggX7_openFor_X7_isGate : GoodIn wsX7_openFor wsX7_isGate := goodIn_r _ [5, 6, 7, 4, 8] (by decide +kernel) (by decide +kernel)
set_option maxRecDepth 20000 in
theorem gX7_openFor_X7_isGate : GoodIn wsX7_openFor (va_wsS RX7 98 yX7_isGate wsX7_isGate) := goodIn_app (goodIn_of _ (by decide +kernel)) ggX7_openFor_X7_isGate
set_option maxRecDepth 20000 in
theorem ggX7_openFor_X7_opensIn : GoodIn wsX7_openFor wsX7_opensIn := goodIn_r _ [12, 1, 13, 14, 15, 4, 16, 17, 18, 19, 20, 21, 22, 23, 24, 25, 26, 27, 28, 29, 30, 31, 32, 33, 34, 35, 36, 37, 38] (by decide +kernel) (by decide +kernel)
set_option maxRecDepth 20000 in
theorem gX7_openFor_X7_opensIn : GoodIn wsX7_openFor (wsV RX7 126 RX7 yX7_opensIn wsX7_opensIn) := goodIn_app (goodIn_of _ (by decide +kernel)) ggX7_openFor_X7_opensIn
set_option maxRecDepth 20000 in
theorem ggX7_openFor_X7_isOpen : GoodIn wsX7_openFor wsX7_isOpen := goodIn_r _ [16, 1, 17, 18, 4, 19, 20, 21, 22, 23, 24, 25, 26, 27, 28, 29, 30, 31, 32, 33, 34, 35, 36, 37, 38] (by decide +kernel) (by decide +kernel)
set_option maxRecDepth 20000 in
theorem gX7_openFor_X7_isOpen : GoodIn wsX7_openFor (wsV RX7 51 RX7 yX7_isOpen wsX7_isOpen) := goodIn_app (goodIn_of _ (by decide +kernel)) ggX7_openFor_X7_isOpen
theorem dX7_openFor_0 : decode cX7_openFor 0 = .ok (.iload_n 1, 1) := by decide +kernel
theorem dX7_openFor_1 : decode cX7_openFor 1 = .ok (.invokestatic 98, 3) := by decide +kernel
theorem dX7_openFor_4 : decode cX7_openFor 4 = .ok (.ifCond .ne 7, 3) := by decide +kernel
theorem dX7_openFor_7 : decode cX7_openFor 7 = .ok (.sipush (-1001), 3) := by decide +kernel
theorem dX7_openFor_10 : decode cX7_openFor 10 = .ok (.ireturn, 1) := by decide +kernel
theorem dX7_openFor_11 : decode cX7_openFor 11 = .ok (.aload_n 0, 1) := by decide +kernel
theorem dX7_openFor_12 : decode cX7_openFor 12 = .ok (.iload_n 1, 1) := by decide +kernel
theorem dX7_openFor_13 : decode cX7_openFor 13 = .ok (.invokevirtual 126, 3) := by decide +kernel
theorem dX7_openFor_16 : decode cX7_openFor 16 = .ok (.istore_n 2, 1) := by decide +kernel
theorem dX7_openFor_17 : decode cX7_openFor 17 = .ok (.iconst 0, 1) := by decide +kernel
theorem dX7_openFor_18 : decode cX7_openFor 18 = .ok (.istore_n 3, 1) := by decide +kernel
theorem dX7_openFor_19 : decode cX7_openFor 19 = .ok (.iload_n 2, 1) := by decide +kernel
theorem dX7_openFor_20 : decode cX7_openFor 20 = .ok (.sipush (-1006), 3) := by decide +kernel
theorem dX7_openFor_23 : decode cX7_openFor 23 = .ok (.if_icmp .eq 34, 3) := by decide +kernel
theorem dX7_openFor_26 : decode cX7_openFor 26 = .ok (.iload_n 3, 1) := by decide +kernel
theorem dX7_openFor_27 : decode cX7_openFor 27 = .ok (.sipush 4000, 3) := by decide +kernel
theorem dX7_openFor_30 : decode cX7_openFor 30 = .ok (.if_icmp .ge 27, 3) := by decide +kernel
theorem dX7_openFor_33 : decode cX7_openFor 33 = .ok (.aload_n 0, 1) := by decide +kernel
theorem dX7_openFor_34 : decode cX7_openFor 34 = .ok (.iload_n 1, 1) := by decide +kernel
theorem dX7_openFor_35 : decode cX7_openFor 35 = .ok (.aload_n 0, 1) := by decide +kernel
theorem dX7_openFor_36 : decode cX7_openFor 36 = .ok (.getfield 7, 3) := by decide +kernel
theorem dX7_openFor_39 : decode cX7_openFor 39 = .ok (.iconst 0, 1) := by decide +kernel
theorem dX7_openFor_40 : decode cX7_openFor 40 = .ok (.iaload, 1) := by decide +kernel
theorem dX7_openFor_41 : decode cX7_openFor 41 = .ok (.iload_n 2, 1) := by decide +kernel
theorem dX7_openFor_42 : decode cX7_openFor 42 = .ok (.iadd, 1) := by decide +kernel
theorem dX7_openFor_43 : decode cX7_openFor 43 = .ok (.iload_n 3, 1) := by decide +kernel
theorem dX7_openFor_44 : decode cX7_openFor 44 = .ok (.iadd, 1) := by decide +kernel
theorem dX7_openFor_45 : decode cX7_openFor 45 = .ok (.invokevirtual 51, 3) := by decide +kernel
theorem dX7_openFor_48 : decode cX7_openFor 48 = .ok (.ifCond .eq 9, 3) := by decide +kernel
theorem dX7_openFor_51 : decode cX7_openFor 51 = .ok (.iinc 3 1, 3) := by decide +kernel
theorem dX7_openFor_54 : decode cX7_openFor 54 = .ok (.goto (-35), 3) := by decide +kernel
theorem dX7_openFor_57 : decode cX7_openFor 57 = .ok (.iload_n 2, 1) := by decide +kernel
theorem dX7_openFor_58 : decode cX7_openFor 58 = .ok (.sipush (-1006), 3) := by decide +kernel
theorem dX7_openFor_61 : decode cX7_openFor 61 = .ok (.if_icmp .ne 9, 3) := by decide +kernel
theorem dX7_openFor_64 : decode cX7_openFor 64 = .ok (.sipush (-1006), 3) := by decide +kernel
theorem dX7_openFor_67 : decode cX7_openFor 67 = .ok (.goto 4, 3) := by decide +kernel
theorem dX7_openFor_70 : decode cX7_openFor 70 = .ok (.iload_n 3, 1) := by decide +kernel
theorem dX7_openFor_71 : decode cX7_openFor 71 = .ok (.ireturn, 1) := by decide +kernel
set_option maxRecDepth 20000 in
theorem ggX7_untilPassed_X7_isWord : GoodIn wsX7_untilPassed wsX7_isWord := goodIn_r _ [5, 6, 7, 8, 4, 9, 75, 76, 77, 78, 79, 80, 81, 82] (by decide +kernel) (by decide +kernel)
set_option maxRecDepth 20000 in
theorem gX7_untilPassed_X7_isWord : GoodIn wsX7_untilPassed (wsV RX7 111 RX7 yX7_isWord wsX7_isWord) := goodIn_app (goodIn_of _ (by decide +kernel)) ggX7_untilPassed_X7_isWord
set_option maxRecDepth 20000 in
theorem ggX7_untilPassed_X7_putAside : GoodIn wsX7_untilPassed wsX7_putAside := goodIn_r _ [13, 14, 6, 75, 76, 77, 78, 79, 80, 81, 82] (by decide +kernel) (by decide +kernel)
set_option maxRecDepth 20000 in
theorem gX7_untilPassed_X7_putAside : GoodIn wsX7_untilPassed (wsV RX7 129 RX7 yX7_putAside wsX7_putAside) := goodIn_app (goodIn_of _ (by decide +kernel)) ggX7_untilPassed_X7_putAside
set_option maxRecDepth 20000 in
theorem ggX7_untilPassed_X7_hasPassed : GoodIn wsX7_untilPassed wsX7_hasPassed := goodIn_r _ [18, 6, 19, 20, 4, 21, 75, 76, 77, 78, 79, 80, 81, 82] (by decide +kernel) (by decide +kernel)
set_option maxRecDepth 20000 in
theorem gX7_untilPassed_X7_hasPassed : GoodIn wsX7_untilPassed (wsV RX7 64 RX7 yX7_hasPassed wsX7_hasPassed) := goodIn_app (goodIn_of _ (by decide +kernel)) ggX7_untilPassed_X7_hasPassed
set_option maxRecDepth 20000 in
theorem ggX7_untilPassed_X7_step : GoodIn wsX7_untilPassed wsX7_step := goodIn_r _ [25, 6, 26, 27, 28, 4, 29, 30, 31, 32, 33, 34, 35, 36, 37, 38, 39, 40, 41, 42, 43, 44, 45, 46, 47, 48, 49, 50, 51, 52, 53, 54, 55, 56, 57, 58, 15, 16, 17, 18, 19, 20, 21, 59, 60, 61, 62, 63, 64, 65, 66, 67, 68, 69, 70, 75, 76, 77, 78, 79, 80, 81, 82] (by decide +kernel) (by decide +kernel)
set_option maxRecDepth 20000 in
theorem gX7_untilPassed_X7_step : GoodIn wsX7_untilPassed (wsV RX7 86 RX7 yX7_step wsX7_step) := goodIn_app (goodIn_of _ (by decide +kernel)) ggX7_untilPassed_X7_step
set_option maxRecDepth 20000 in
theorem ggX7_untilPassed_X7_putBack : GoodIn wsX7_untilPassed wsX7_putBack := goodIn_r _ [74, 6, 14, 75, 76, 77, 78, 79, 80, 81, 82] (by decide +kernel) (by decide +kernel)
set_option maxRecDepth 20000 in
theorem gX7_untilPassed_X7_putBack : GoodIn wsX7_untilPassed (wsV RX7 132 RX7 yX7_putBack wsX7_putBack) := goodIn_app (goodIn_of _ (by decide +kernel)) ggX7_untilPassed_X7_putBack
theorem dX7_untilPassed_0 : decode cX7_untilPassed 0 = .ok (.aload_n 0, 1) := by decide +kernel
theorem dX7_untilPassed_1 : decode cX7_untilPassed 1 = .ok (.iload_n 1, 1) := by decide +kernel
theorem dX7_untilPassed_2 : decode cX7_untilPassed 2 = .ok (.invokevirtual 111, 3) := by decide +kernel
theorem dX7_untilPassed_5 : decode cX7_untilPassed 5 = .ok (.ifCond .ne 7, 3) := by decide +kernel
theorem dX7_untilPassed_8 : decode cX7_untilPassed 8 = .ok (.sipush (-1001), 3) := by decide +kernel
theorem dX7_untilPassed_11 : decode cX7_untilPassed 11 = .ok (.ireturn, 1) := by decide +kernel
theorem dX7_untilPassed_12 : decode cX7_untilPassed 12 = .ok (.aload_n 0, 1) := by decide +kernel
theorem dX7_untilPassed_13 : decode cX7_untilPassed 13 = .ok (.invokevirtual 129, 3) := by decide +kernel
theorem dX7_untilPassed_16 : decode cX7_untilPassed 16 = .ok (.iconst 0, 1) := by decide +kernel
theorem dX7_untilPassed_17 : decode cX7_untilPassed 17 = .ok (.istore_n 2, 1) := by decide +kernel
theorem dX7_untilPassed_18 : decode cX7_untilPassed 18 = .ok (.aload_n 0, 1) := by decide +kernel
theorem dX7_untilPassed_19 : decode cX7_untilPassed 19 = .ok (.iload_n 1, 1) := by decide +kernel
theorem dX7_untilPassed_20 : decode cX7_untilPassed 20 = .ok (.invokevirtual 64, 3) := by decide +kernel
theorem dX7_untilPassed_23 : decode cX7_untilPassed 23 = .ok (.ifCond .ne 20, 3) := by decide +kernel
theorem dX7_untilPassed_26 : decode cX7_untilPassed 26 = .ok (.iload_n 2, 1) := by decide +kernel
theorem dX7_untilPassed_27 : decode cX7_untilPassed 27 = .ok (.sipush 1000, 3) := by decide +kernel
theorem dX7_untilPassed_30 : decode cX7_untilPassed 30 = .ok (.if_icmp .ge 13, 3) := by decide +kernel
theorem dX7_untilPassed_33 : decode cX7_untilPassed 33 = .ok (.aload_n 0, 1) := by decide +kernel
theorem dX7_untilPassed_34 : decode cX7_untilPassed 34 = .ok (.invokevirtual 86, 3) := by decide +kernel
theorem dX7_untilPassed_37 : decode cX7_untilPassed 37 = .ok (.iinc 2 1, 3) := by decide +kernel
theorem dX7_untilPassed_40 : decode cX7_untilPassed 40 = .ok (.goto (-22), 3) := by decide +kernel
theorem dX7_untilPassed_43 : decode cX7_untilPassed 43 = .ok (.aload_n 0, 1) := by decide +kernel
theorem dX7_untilPassed_44 : decode cX7_untilPassed 44 = .ok (.iload_n 1, 1) := by decide +kernel
theorem dX7_untilPassed_45 : decode cX7_untilPassed 45 = .ok (.invokevirtual 64, 3) := by decide +kernel
theorem dX7_untilPassed_48 : decode cX7_untilPassed 48 = .ok (.istore_n 3, 1) := by decide +kernel
theorem dX7_untilPassed_49 : decode cX7_untilPassed 49 = .ok (.aload_n 0, 1) := by decide +kernel
theorem dX7_untilPassed_50 : decode cX7_untilPassed 50 = .ok (.invokevirtual 132, 3) := by decide +kernel
theorem dX7_untilPassed_53 : decode cX7_untilPassed 53 = .ok (.iload_n 3, 1) := by decide +kernel
theorem dX7_untilPassed_54 : decode cX7_untilPassed 54 = .ok (.ifCond .eq 7, 3) := by decide +kernel
theorem dX7_untilPassed_57 : decode cX7_untilPassed 57 = .ok (.iload_n 2, 1) := by decide +kernel
theorem dX7_untilPassed_58 : decode cX7_untilPassed 58 = .ok (.goto 6, 3) := by decide +kernel
theorem dX7_untilPassed_61 : decode cX7_untilPassed 61 = .ok (.sipush (-1006), 3) := by decide +kernel
theorem dX7_untilPassed_64 : decode cX7_untilPassed 64 = .ok (.ireturn, 1) := by decide +kernel
set_option maxRecDepth 20000 in
theorem ggX7_ifRun_X7_in : GoodIn wsX7_ifRun wsX7_in := goodIn_r _ [5] (by decide +kernel) (by decide +kernel)
set_option maxRecDepth 20000 in
theorem gX7_ifRun_X7_in : GoodIn wsX7_ifRun (va_wsS RX7 36 yX7_in wsX7_in) := goodIn_app (goodIn_of _ (by decide +kernel)) ggX7_ifRun_X7_in
set_option maxRecDepth 20000 in
theorem ggX7_ifRun_X7_putAside : GoodIn wsX7_ifRun wsX7_putAside := goodIn_r _ [9, 10, 1, 83, 84, 85, 86, 87, 88, 89, 90] (by decide +kernel) (by decide +kernel)
set_option maxRecDepth 20000 in
theorem gX7_ifRun_X7_putAside : GoodIn wsX7_ifRun (wsV RX7 129 RX7 yX7_putAside wsX7_putAside) := goodIn_app (goodIn_of _ (by decide +kernel)) ggX7_ifRun_X7_putAside
set_option maxRecDepth 20000 in
theorem ggX7_ifRun_X7_passedWords : GoodIn wsX7_ifRun wsX7_passedWords := goodIn_r _ [14, 1, 15, 16, 4, 17, 83, 84, 85, 86, 87, 88, 89, 90] (by decide +kernel) (by decide +kernel)
set_option maxRecDepth 20000 in
theorem gX7_ifRun_X7_passedWords : GoodIn wsX7_ifRun (wsV RX7 102 RX7 yX7_passedWords wsX7_passedWords) := goodIn_app (goodIn_of _ (by decide +kernel)) ggX7_ifRun_X7_passedWords
set_option maxRecDepth 20000 in
theorem ggX7_ifRun_X7_backs : GoodIn wsX7_ifRun wsX7_backs := goodIn_r _ [21, 1, 15, 16, 4, 17, 83, 84, 85, 86, 87, 88, 89, 90] (by decide +kernel) (by decide +kernel)
set_option maxRecDepth 20000 in
theorem gX7_ifRun_X7_backs : GoodIn wsX7_ifRun (wsV RX7 135 RX7 yX7_backs wsX7_backs) := goodIn_app (goodIn_of _ (by decide +kernel)) ggX7_ifRun_X7_backs
set_option maxRecDepth 20000 in
theorem ggX7_ifRun_X7_runs : GoodIn wsX7_ifRun wsX7_runs := goodIn_r _ [25, 26, 27, 28, 4, 29, 1, 30, 31, 32, 33, 34, 35, 36, 37, 38, 39, 40, 41, 42, 43, 44, 45, 46, 47, 48, 49, 50, 51, 52, 53, 54, 55, 56, 57, 58, 59, 60, 61, 62, 63, 64, 65, 66, 15, 16, 17, 67, 68, 69, 70, 71, 72, 73, 74, 75, 76, 77, 78, 83, 84, 85, 86, 87, 88, 89, 90] (by decide +kernel) (by decide +kernel)
set_option maxRecDepth 20000 in
theorem gX7_ifRun_X7_runs : GoodIn wsX7_ifRun (wsV RX7 105 RX7 yX7_runs wsX7_runs) := goodIn_app (goodIn_of _ (by decide +kernel)) ggX7_ifRun_X7_runs
set_option maxRecDepth 20000 in
theorem ggX7_ifRun_X7_putBack : GoodIn wsX7_ifRun wsX7_putBack := goodIn_r _ [82, 1, 10, 83, 84, 85, 86, 87, 88, 89, 90] (by decide +kernel) (by decide +kernel)
set_option maxRecDepth 20000 in
theorem gX7_ifRun_X7_putBack : GoodIn wsX7_ifRun (wsV RX7 132 RX7 yX7_putBack wsX7_putBack) := goodIn_app (goodIn_of _ (by decide +kernel)) ggX7_ifRun_X7_putBack
theorem dX7_ifRun_0 : decode cX7_ifRun 0 = .ok (.iload_n 1, 1) := by decide +kernel
theorem dX7_ifRun_1 : decode cX7_ifRun 1 = .ok (.iconst 1, 1) := by decide +kernel
theorem dX7_ifRun_2 : decode cX7_ifRun 2 = .ok (.sipush 1000, 3) := by decide +kernel
theorem dX7_ifRun_5 : decode cX7_ifRun 5 = .ok (.invokestatic 36, 3) := by decide +kernel
theorem dX7_ifRun_8 : decode cX7_ifRun 8 = .ok (.ifCond .eq 12, 3) := by decide +kernel
theorem dX7_ifRun_11 : decode cX7_ifRun 11 = .ok (.iload_n 2, 1) := by decide +kernel
theorem dX7_ifRun_12 : decode cX7_ifRun 12 = .ok (.iconst 0, 1) := by decide +kernel
theorem dX7_ifRun_13 : decode cX7_ifRun 13 = .ok (.iconst 3, 1) := by decide +kernel
theorem dX7_ifRun_14 : decode cX7_ifRun 14 = .ok (.invokestatic 36, 3) := by decide +kernel
theorem dX7_ifRun_17 : decode cX7_ifRun 17 = .ok (.ifCond .ne 7, 3) := by decide +kernel
theorem dX7_ifRun_20 : decode cX7_ifRun 20 = .ok (.sipush (-1002), 3) := by decide +kernel
theorem dX7_ifRun_23 : decode cX7_ifRun 23 = .ok (.ireturn, 1) := by decide +kernel
theorem dX7_ifRun_24 : decode cX7_ifRun 24 = .ok (.aload_n 0, 1) := by decide +kernel
theorem dX7_ifRun_25 : decode cX7_ifRun 25 = .ok (.invokevirtual 129, 3) := by decide +kernel
theorem dX7_ifRun_28 : decode cX7_ifRun 28 = .ok (.iload_n 2, 1) := by decide +kernel
theorem dX7_ifRun_29 : decode cX7_ifRun 29 = .ok (.ifCond .ne 10, 3) := by decide +kernel
theorem dX7_ifRun_32 : decode cX7_ifRun 32 = .ok (.aload_n 0, 1) := by decide +kernel
theorem dX7_ifRun_33 : decode cX7_ifRun 33 = .ok (.invokevirtual 102, 3) := by decide +kernel
theorem dX7_ifRun_36 : decode cX7_ifRun 36 = .ok (.goto 35, 3) := by decide +kernel
theorem dX7_ifRun_39 : decode cX7_ifRun 39 = .ok (.iload_n 2, 1) := by decide +kernel
theorem dX7_ifRun_40 : decode cX7_ifRun 40 = .ok (.iconst 1, 1) := by decide +kernel
theorem dX7_ifRun_41 : decode cX7_ifRun 41 = .ok (.if_icmp .ne 12, 3) := by decide +kernel
theorem dX7_ifRun_44 : decode cX7_ifRun 44 = .ok (.aload_n 0, 1) := by decide +kernel
theorem dX7_ifRun_45 : decode cX7_ifRun 45 = .ok (.getfield 7, 3) := by decide +kernel
theorem dX7_ifRun_48 : decode cX7_ifRun 48 = .ok (.iconst 3, 1) := by decide +kernel
theorem dX7_ifRun_49 : decode cX7_ifRun 49 = .ok (.iaload, 1) := by decide +kernel
theorem dX7_ifRun_50 : decode cX7_ifRun 50 = .ok (.goto 21, 3) := by decide +kernel
theorem dX7_ifRun_53 : decode cX7_ifRun 53 = .ok (.iload_n 2, 1) := by decide +kernel
theorem dX7_ifRun_54 : decode cX7_ifRun 54 = .ok (.iconst 2, 1) := by decide +kernel
theorem dX7_ifRun_55 : decode cX7_ifRun 55 = .ok (.if_icmp .ne 10, 3) := by decide +kernel
theorem dX7_ifRun_58 : decode cX7_ifRun 58 = .ok (.aload_n 0, 1) := by decide +kernel
theorem dX7_ifRun_59 : decode cX7_ifRun 59 = .ok (.invokevirtual 135, 3) := by decide +kernel
theorem dX7_ifRun_62 : decode cX7_ifRun 62 = .ok (.goto 9, 3) := by decide +kernel
theorem dX7_ifRun_65 : decode cX7_ifRun 65 = .ok (.aload_n 0, 1) := by decide +kernel
theorem dX7_ifRun_66 : decode cX7_ifRun 66 = .ok (.getfield 7, 3) := by decide +kernel
theorem dX7_ifRun_69 : decode cX7_ifRun 69 = .ok (.iconst 1, 1) := by decide +kernel
theorem dX7_ifRun_70 : decode cX7_ifRun 70 = .ok (.iaload, 1) := by decide +kernel
theorem dX7_ifRun_71 : decode cX7_ifRun 71 = .ok (.istore_n 3, 1) := by decide +kernel
theorem dX7_ifRun_72 : decode cX7_ifRun 72 = .ok (.aload_n 0, 1) := by decide +kernel
theorem dX7_ifRun_73 : decode cX7_ifRun 73 = .ok (.iload_n 1, 1) := by decide +kernel
theorem dX7_ifRun_74 : decode cX7_ifRun 74 = .ok (.invokevirtual 105, 3) := by decide +kernel
theorem dX7_ifRun_77 : decode cX7_ifRun 77 = .ok (.iload_n 2, 1) := by decide +kernel
theorem dX7_ifRun_78 : decode cX7_ifRun 78 = .ok (.ifCond .ne 10, 3) := by decide +kernel
theorem dX7_ifRun_81 : decode cX7_ifRun 81 = .ok (.aload_n 0, 1) := by decide +kernel
theorem dX7_ifRun_82 : decode cX7_ifRun 82 = .ok (.invokevirtual 102, 3) := by decide +kernel
theorem dX7_ifRun_85 : decode cX7_ifRun 85 = .ok (.goto 35, 3) := by decide +kernel
theorem dX7_ifRun_88 : decode cX7_ifRun 88 = .ok (.iload_n 2, 1) := by decide +kernel
theorem dX7_ifRun_89 : decode cX7_ifRun 89 = .ok (.iconst 1, 1) := by decide +kernel
theorem dX7_ifRun_90 : decode cX7_ifRun 90 = .ok (.if_icmp .ne 12, 3) := by decide +kernel
theorem dX7_ifRun_93 : decode cX7_ifRun 93 = .ok (.aload_n 0, 1) := by decide +kernel
theorem dX7_ifRun_94 : decode cX7_ifRun 94 = .ok (.getfield 7, 3) := by decide +kernel
theorem dX7_ifRun_97 : decode cX7_ifRun 97 = .ok (.iconst 3, 1) := by decide +kernel
theorem dX7_ifRun_98 : decode cX7_ifRun 98 = .ok (.iaload, 1) := by decide +kernel
theorem dX7_ifRun_99 : decode cX7_ifRun 99 = .ok (.goto 21, 3) := by decide +kernel
theorem dX7_ifRun_102 : decode cX7_ifRun 102 = .ok (.iload_n 2, 1) := by decide +kernel
theorem dX7_ifRun_103 : decode cX7_ifRun 103 = .ok (.iconst 2, 1) := by decide +kernel
theorem dX7_ifRun_104 : decode cX7_ifRun 104 = .ok (.if_icmp .ne 10, 3) := by decide +kernel
theorem dX7_ifRun_107 : decode cX7_ifRun 107 = .ok (.aload_n 0, 1) := by decide +kernel
theorem dX7_ifRun_108 : decode cX7_ifRun 108 = .ok (.invokevirtual 135, 3) := by decide +kernel
theorem dX7_ifRun_111 : decode cX7_ifRun 111 = .ok (.goto 9, 3) := by decide +kernel
theorem dX7_ifRun_114 : decode cX7_ifRun 114 = .ok (.aload_n 0, 1) := by decide +kernel
theorem dX7_ifRun_115 : decode cX7_ifRun 115 = .ok (.getfield 7, 3) := by decide +kernel
theorem dX7_ifRun_118 : decode cX7_ifRun 118 = .ok (.iconst 1, 1) := by decide +kernel
theorem dX7_ifRun_119 : decode cX7_ifRun 119 = .ok (.iaload, 1) := by decide +kernel
theorem dX7_ifRun_120 : decode cX7_ifRun 120 = .ok (.istore 4, 2) := by decide +kernel
theorem dX7_ifRun_122 : decode cX7_ifRun 122 = .ok (.aload_n 0, 1) := by decide +kernel
theorem dX7_ifRun_123 : decode cX7_ifRun 123 = .ok (.invokevirtual 132, 3) := by decide +kernel
theorem dX7_ifRun_126 : decode cX7_ifRun 126 = .ok (.iload 4, 2) := by decide +kernel
theorem dX7_ifRun_128 : decode cX7_ifRun 128 = .ok (.iload_n 3, 1) := by decide +kernel
theorem dX7_ifRun_129 : decode cX7_ifRun 129 = .ok (.isub, 1) := by decide +kernel
theorem dX7_ifRun_130 : decode cX7_ifRun 130 = .ok (.ireturn, 1) := by decide +kernel
set_option maxRecDepth 20000 in
theorem ggX7_leastSlack_X7_isGate : GoodIn wsX7_leastSlack wsX7_isGate := goodIn_r _ [5, 6, 7, 4, 8] (by decide +kernel) (by decide +kernel)
set_option maxRecDepth 20000 in
theorem gX7_leastSlack_X7_isGate : GoodIn wsX7_leastSlack (va_wsS RX7 98 yX7_isGate wsX7_isGate) := goodIn_app (goodIn_of _ (by decide +kernel)) ggX7_leastSlack_X7_isGate
set_option maxRecDepth 20000 in
theorem ggX7_leastSlack_X7_in : GoodIn wsX7_leastSlack wsX7_in := goodIn_r _ [8] (by decide +kernel) (by decide +kernel)
set_option maxRecDepth 20000 in
theorem gX7_leastSlack_X7_in : GoodIn wsX7_leastSlack (va_wsS RX7 36 yX7_in wsX7_in) := goodIn_app (goodIn_of _ (by decide +kernel)) ggX7_leastSlack_X7_in
set_option maxRecDepth 20000 in
theorem ggX7_leastSlack_X7_passedWords : GoodIn wsX7_leastSlack wsX7_passedWords := goodIn_r _ [12, 1, 13, 14, 4, 15, 82, 83, 84, 85, 86, 87, 88, 89] (by decide +kernel) (by decide +kernel)
set_option maxRecDepth 20000 in
theorem gX7_leastSlack_X7_passedWords : GoodIn wsX7_leastSlack (wsV RX7 102 RX7 yX7_passedWords wsX7_passedWords) := goodIn_app (goodIn_of _ (by decide +kernel)) ggX7_leastSlack_X7_passedWords
set_option maxRecDepth 20000 in
theorem ggX7_leastSlack_X7_putAside : GoodIn wsX7_leastSlack wsX7_putAside := goodIn_r _ [19, 20, 1, 82, 83, 84, 85, 86, 87, 88, 89] (by decide +kernel) (by decide +kernel)
set_option maxRecDepth 20000 in
theorem gX7_leastSlack_X7_putAside : GoodIn wsX7_leastSlack (wsV RX7 129 RX7 yX7_putAside wsX7_putAside) := goodIn_app (goodIn_of _ (by decide +kernel)) ggX7_leastSlack_X7_putAside
set_option maxRecDepth 20000 in
theorem ggX7_leastSlack_X7_ofGate : GoodIn wsX7_leastSlack wsX7_ofGate := goodIn_r _ [23] (by decide +kernel) (by decide +kernel)
set_option maxRecDepth 20000 in
theorem gX7_leastSlack_X7_ofGate : GoodIn wsX7_leastSlack (va_wsS RX7 33 yX7_ofGate wsX7_ofGate) := goodIn_app (goodIn_of _ (by decide +kernel)) ggX7_leastSlack_X7_ofGate
set_option maxRecDepth 20000 in
theorem ggX7_leastSlack_X7_runs : GoodIn wsX7_leastSlack wsX7_runs := goodIn_r _ [27, 28, 29, 30, 4, 31, 1, 32, 33, 34, 35, 36, 37, 38, 39, 21, 22, 23, 40, 41, 42, 43, 44, 45, 46, 47, 48, 49, 50, 51, 52, 53, 54, 55, 56, 57, 58, 59, 60, 61, 62, 63, 64, 65, 13, 14, 15, 66, 67, 68, 69, 70, 71, 72, 73, 74, 75, 76, 77, 82, 83, 84, 85, 86, 87, 88, 89] (by decide +kernel) (by decide +kernel)
set_option maxRecDepth 20000 in
theorem gX7_leastSlack_X7_runs : GoodIn wsX7_leastSlack (wsV RX7 105 RX7 yX7_runs wsX7_runs) := goodIn_app (goodIn_of _ (by decide +kernel)) ggX7_leastSlack_X7_runs
set_option maxRecDepth 20000 in
theorem ggX7_leastSlack_X7_putBack : GoodIn wsX7_leastSlack wsX7_putBack := goodIn_r _ [81, 1, 20, 82, 83, 84, 85, 86, 87, 88, 89] (by decide +kernel) (by decide +kernel)
set_option maxRecDepth 20000 in
theorem gX7_leastSlack_X7_putBack : GoodIn wsX7_leastSlack (wsV RX7 132 RX7 yX7_putBack wsX7_putBack) := goodIn_app (goodIn_of _ (by decide +kernel)) ggX7_leastSlack_X7_putBack
theorem dX7_leastSlack_0 : decode cX7_leastSlack 0 = .ok (.iload_n 1, 1) := by decide +kernel
theorem dX7_leastSlack_1 : decode cX7_leastSlack 1 = .ok (.invokestatic 98, 3) := by decide +kernel
theorem dX7_leastSlack_4 : decode cX7_leastSlack 4 = .ok (.ifCond .ne 7, 3) := by decide +kernel
theorem dX7_leastSlack_7 : decode cX7_leastSlack 7 = .ok (.sipush (-1001), 3) := by decide +kernel
theorem dX7_leastSlack_10 : decode cX7_leastSlack 10 = .ok (.ireturn, 1) := by decide +kernel
theorem dX7_leastSlack_11 : decode cX7_leastSlack 11 = .ok (.iload_n 2, 1) := by decide +kernel
theorem dX7_leastSlack_12 : decode cX7_leastSlack 12 = .ok (.iconst 0, 1) := by decide +kernel
theorem dX7_leastSlack_13 : decode cX7_leastSlack 13 = .ok (.iconst 1, 1) := by decide +kernel
theorem dX7_leastSlack_14 : decode cX7_leastSlack 14 = .ok (.invokestatic 36, 3) := by decide +kernel
theorem dX7_leastSlack_17 : decode cX7_leastSlack 17 = .ok (.ifCond .ne 7, 3) := by decide +kernel
theorem dX7_leastSlack_20 : decode cX7_leastSlack 20 = .ok (.sipush (-1002), 3) := by decide +kernel
theorem dX7_leastSlack_23 : decode cX7_leastSlack 23 = .ok (.ireturn, 1) := by decide +kernel
theorem dX7_leastSlack_24 : decode cX7_leastSlack 24 = .ok (.aload_n 0, 1) := by decide +kernel
theorem dX7_leastSlack_25 : decode cX7_leastSlack 25 = .ok (.invokevirtual 102, 3) := by decide +kernel
theorem dX7_leastSlack_28 : decode cX7_leastSlack 28 = .ok (.istore_n 3, 1) := by decide +kernel
theorem dX7_leastSlack_29 : decode cX7_leastSlack 29 = .ok (.iconst 0, 1) := by decide +kernel
theorem dX7_leastSlack_30 : decode cX7_leastSlack 30 = .ok (.istore 4, 2) := by decide +kernel
theorem dX7_leastSlack_32 : decode cX7_leastSlack 32 = .ok (.iconst (-1), 1) := by decide +kernel
theorem dX7_leastSlack_33 : decode cX7_leastSlack 33 = .ok (.istore 5, 2) := by decide +kernel
theorem dX7_leastSlack_35 : decode cX7_leastSlack 35 = .ok (.aload_n 0, 1) := by decide +kernel
theorem dX7_leastSlack_36 : decode cX7_leastSlack 36 = .ok (.invokevirtual 129, 3) := by decide +kernel
theorem dX7_leastSlack_39 : decode cX7_leastSlack 39 = .ok (.iconst 0, 1) := by decide +kernel
theorem dX7_leastSlack_40 : decode cX7_leastSlack 40 = .ok (.istore 6, 2) := by decide +kernel
theorem dX7_leastSlack_42 : decode cX7_leastSlack 42 = .ok (.iload 6, 2) := by decide +kernel
theorem dX7_leastSlack_44 : decode cX7_leastSlack 44 = .ok (.bipush 100, 2) := by decide +kernel
theorem dX7_leastSlack_46 : decode cX7_leastSlack 46 = .ok (.if_icmp .ge 72, 3) := by decide +kernel
theorem dX7_leastSlack_49 : decode cX7_leastSlack 49 = .ok (.aload_n 0, 1) := by decide +kernel
theorem dX7_leastSlack_50 : decode cX7_leastSlack 50 = .ok (.getfield 7, 3) := by decide +kernel
theorem dX7_leastSlack_53 : decode cX7_leastSlack 53 = .ok (.iload_n 1, 1) := by decide +kernel
theorem dX7_leastSlack_54 : decode cX7_leastSlack 54 = .ok (.iconst 1, 1) := by decide +kernel
theorem dX7_leastSlack_55 : decode cX7_leastSlack 55 = .ok (.invokestatic 33, 3) := by decide +kernel
theorem dX7_leastSlack_58 : decode cX7_leastSlack 58 = .ok (.iload 6, 2) := by decide +kernel
theorem dX7_leastSlack_60 : decode cX7_leastSlack 60 = .ok (.iastore, 1) := by decide +kernel
theorem dX7_leastSlack_61 : decode cX7_leastSlack 61 = .ok (.aload_n 0, 1) := by decide +kernel
theorem dX7_leastSlack_62 : decode cX7_leastSlack 62 = .ok (.sipush 200, 3) := by decide +kernel
theorem dX7_leastSlack_65 : decode cX7_leastSlack 65 = .ok (.invokevirtual 105, 3) := by decide +kernel
theorem dX7_leastSlack_68 : decode cX7_leastSlack 68 = .ok (.aload_n 0, 1) := by decide +kernel
theorem dX7_leastSlack_69 : decode cX7_leastSlack 69 = .ok (.invokevirtual 102, 3) := by decide +kernel
theorem dX7_leastSlack_72 : decode cX7_leastSlack 72 = .ok (.iload_n 3, 1) := by decide +kernel
theorem dX7_leastSlack_73 : decode cX7_leastSlack 73 = .ok (.isub, 1) := by decide +kernel
theorem dX7_leastSlack_74 : decode cX7_leastSlack 74 = .ok (.istore 7, 2) := by decide +kernel
theorem dX7_leastSlack_76 : decode cX7_leastSlack 76 = .ok (.iload 7, 2) := by decide +kernel
theorem dX7_leastSlack_78 : decode cX7_leastSlack 78 = .ok (.iload 5, 2) := by decide +kernel
theorem dX7_leastSlack_80 : decode cX7_leastSlack 80 = .ok (.if_icmp .le 8, 3) := by decide +kernel
theorem dX7_leastSlack_83 : decode cX7_leastSlack 83 = .ok (.iload 6, 2) := by decide +kernel
theorem dX7_leastSlack_85 : decode cX7_leastSlack 85 = .ok (.goto 5, 3) := by decide +kernel
theorem dX7_leastSlack_88 : decode cX7_leastSlack 88 = .ok (.iload 4, 2) := by decide +kernel
theorem dX7_leastSlack_90 : decode cX7_leastSlack 90 = .ok (.istore 4, 2) := by decide +kernel
theorem dX7_leastSlack_92 : decode cX7_leastSlack 92 = .ok (.iload 7, 2) := by decide +kernel
theorem dX7_leastSlack_94 : decode cX7_leastSlack 94 = .ok (.iload 5, 2) := by decide +kernel
theorem dX7_leastSlack_96 : decode cX7_leastSlack 96 = .ok (.if_icmp .le 8, 3) := by decide +kernel
theorem dX7_leastSlack_99 : decode cX7_leastSlack 99 = .ok (.iload 7, 2) := by decide +kernel
theorem dX7_leastSlack_101 : decode cX7_leastSlack 101 = .ok (.goto 5, 3) := by decide +kernel
theorem dX7_leastSlack_104 : decode cX7_leastSlack 104 = .ok (.iload 5, 2) := by decide +kernel
theorem dX7_leastSlack_106 : decode cX7_leastSlack 106 = .ok (.istore 5, 2) := by decide +kernel
theorem dX7_leastSlack_108 : decode cX7_leastSlack 108 = .ok (.aload_n 0, 1) := by decide +kernel
theorem dX7_leastSlack_109 : decode cX7_leastSlack 109 = .ok (.invokevirtual 132, 3) := by decide +kernel
theorem dX7_leastSlack_112 : decode cX7_leastSlack 112 = .ok (.iinc 6 1, 3) := by decide +kernel
theorem dX7_leastSlack_115 : decode cX7_leastSlack 115 = .ok (.goto (-73), 3) := by decide +kernel
theorem dX7_leastSlack_118 : decode cX7_leastSlack 118 = .ok (.iload_n 2, 1) := by decide +kernel
theorem dX7_leastSlack_119 : decode cX7_leastSlack 119 = .ok (.ifCond .ne 8, 3) := by decide +kernel
theorem dX7_leastSlack_122 : decode cX7_leastSlack 122 = .ok (.iload 4, 2) := by decide +kernel
theorem dX7_leastSlack_124 : decode cX7_leastSlack 124 = .ok (.goto 5, 3) := by decide +kernel
theorem dX7_leastSlack_127 : decode cX7_leastSlack 127 = .ok (.iload 5, 2) := by decide +kernel
theorem dX7_leastSlack_129 : decode cX7_leastSlack 129 = .ok (.ireturn, 1) := by decide +kernel
set_option maxRecDepth 20000 in
theorem ggX7_opensWith_X7_ofStore : GoodIn wsX7_opensWith wsX7_ofStore := goodIn_r _ [5] (by decide +kernel) (by decide +kernel)
set_option maxRecDepth 20000 in
theorem gX7_opensWith_X7_ofStore : GoodIn wsX7_opensWith (va_wsS RX7 29 yX7_ofStore wsX7_ofStore) := goodIn_app (goodIn_of _ (by decide +kernel)) ggX7_opensWith_X7_ofStore
set_option maxRecDepth 20000 in
theorem ggX7_opensWith_X7_off : GoodIn wsX7_opensWith wsX7_off := goodIn_r _ [9, 1, 10, 11, 12, 4, 13, 2, 3, 5, 17, 18, 19, 20, 21, 22, 23, 24] (by decide +kernel) (by decide +kernel)
set_option maxRecDepth 20000 in
theorem gX7_opensWith_X7_off : GoodIn wsX7_opensWith (wsV RX7 47 RX7 yX7_off wsX7_off) := goodIn_app (goodIn_of _ (by decide +kernel)) ggX7_opensWith_X7_off
set_option maxRecDepth 20000 in
theorem ggX7_opensWith_X7_ofGate : GoodIn wsX7_opensWith wsX7_ofGate := goodIn_r _ [16] (by decide +kernel) (by decide +kernel)
set_option maxRecDepth 20000 in
theorem gX7_opensWith_X7_ofGate : GoodIn wsX7_opensWith (va_wsS RX7 33 yX7_ofGate wsX7_ofGate) := goodIn_app (goodIn_of _ (by decide +kernel)) ggX7_opensWith_X7_ofGate
theorem dX7_opensWith_0 : decode cX7_opensWith 0 = .ok (.iconst 0, 1) := by decide +kernel
theorem dX7_opensWith_1 : decode cX7_opensWith 1 = .ok (.istore 4, 2) := by decide +kernel
theorem dX7_opensWith_3 : decode cX7_opensWith 3 = .ok (.aload_n 0, 1) := by decide +kernel
theorem dX7_opensWith_4 : decode cX7_opensWith 4 = .ok (.getfield 7, 3) := by decide +kernel
theorem dX7_opensWith_7 : decode cX7_opensWith 7 = .ok (.iload_n 1, 1) := by decide +kernel
theorem dX7_opensWith_8 : decode cX7_opensWith 8 = .ok (.iconst 3, 1) := by decide +kernel
theorem dX7_opensWith_9 : decode cX7_opensWith 9 = .ok (.invokestatic 29, 3) := by decide +kernel
theorem dX7_opensWith_12 : decode cX7_opensWith 12 = .ok (.iaload, 1) := by decide +kernel
theorem dX7_opensWith_13 : decode cX7_opensWith 13 = .ok (.istore 5, 2) := by decide +kernel
theorem dX7_opensWith_15 : decode cX7_opensWith 15 = .ok (.aload_n 0, 1) := by decide +kernel
theorem dX7_opensWith_16 : decode cX7_opensWith 16 = .ok (.getfield 7, 3) := by decide +kernel
theorem dX7_opensWith_19 : decode cX7_opensWith 19 = .ok (.iload_n 1, 1) := by decide +kernel
theorem dX7_opensWith_20 : decode cX7_opensWith 20 = .ok (.iconst 3, 1) := by decide +kernel
theorem dX7_opensWith_21 : decode cX7_opensWith 21 = .ok (.invokestatic 29, 3) := by decide +kernel
theorem dX7_opensWith_24 : decode cX7_opensWith 24 = .ok (.iload_n 3, 1) := by decide +kernel
theorem dX7_opensWith_25 : decode cX7_opensWith 25 = .ok (.iastore, 1) := by decide +kernel
theorem dX7_opensWith_26 : decode cX7_opensWith 26 = .ok (.iconst 0, 1) := by decide +kernel
theorem dX7_opensWith_27 : decode cX7_opensWith 27 = .ok (.istore 6, 2) := by decide +kernel
theorem dX7_opensWith_29 : decode cX7_opensWith 29 = .ok (.iload 6, 2) := by decide +kernel
theorem dX7_opensWith_31 : decode cX7_opensWith 31 = .ok (.sipush 200, 3) := by decide +kernel
theorem dX7_opensWith_34 : decode cX7_opensWith 34 = .ok (.if_icmp .ge 45, 3) := by decide +kernel
theorem dX7_opensWith_37 : decode cX7_opensWith 37 = .ok (.iload 4, 2) := by decide +kernel
theorem dX7_opensWith_39 : decode cX7_opensWith 39 = .ok (.aload_n 0, 1) := by decide +kernel
theorem dX7_opensWith_40 : decode cX7_opensWith 40 = .ok (.aload_n 0, 1) := by decide +kernel
theorem dX7_opensWith_41 : decode cX7_opensWith 41 = .ok (.getfield 7, 3) := by decide +kernel
theorem dX7_opensWith_44 : decode cX7_opensWith 44 = .ok (.iconst 0, 1) := by decide +kernel
theorem dX7_opensWith_45 : decode cX7_opensWith 45 = .ok (.iaload, 1) := by decide +kernel
theorem dX7_opensWith_46 : decode cX7_opensWith 46 = .ok (.iload 6, 2) := by decide +kernel
theorem dX7_opensWith_48 : decode cX7_opensWith 48 = .ok (.iadd, 1) := by decide +kernel
theorem dX7_opensWith_49 : decode cX7_opensWith 49 = .ok (.invokevirtual 47, 3) := by decide +kernel
theorem dX7_opensWith_52 : decode cX7_opensWith 52 = .ok (.aload_n 0, 1) := by decide +kernel
theorem dX7_opensWith_53 : decode cX7_opensWith 53 = .ok (.getfield 7, 3) := by decide +kernel
theorem dX7_opensWith_56 : decode cX7_opensWith 56 = .ok (.iload_n 2, 1) := by decide +kernel
theorem dX7_opensWith_57 : decode cX7_opensWith 57 = .ok (.iconst 1, 1) := by decide +kernel
theorem dX7_opensWith_58 : decode cX7_opensWith 58 = .ok (.invokestatic 33, 3) := by decide +kernel
theorem dX7_opensWith_61 : decode cX7_opensWith 61 = .ok (.iaload, 1) := by decide +kernel
theorem dX7_opensWith_62 : decode cX7_opensWith 62 = .ok (.if_icmp .gt 7, 3) := by decide +kernel
theorem dX7_opensWith_65 : decode cX7_opensWith 65 = .ok (.iconst 1, 1) := by decide +kernel
theorem dX7_opensWith_66 : decode cX7_opensWith 66 = .ok (.goto 4, 3) := by decide +kernel
theorem dX7_opensWith_69 : decode cX7_opensWith 69 = .ok (.iconst 0, 1) := by decide +kernel
theorem dX7_opensWith_70 : decode cX7_opensWith 70 = .ok (.iadd, 1) := by decide +kernel
theorem dX7_opensWith_71 : decode cX7_opensWith 71 = .ok (.istore 4, 2) := by decide +kernel
theorem dX7_opensWith_73 : decode cX7_opensWith 73 = .ok (.iinc 6 1, 3) := by decide +kernel
theorem dX7_opensWith_76 : decode cX7_opensWith 76 = .ok (.goto (-47), 3) := by decide +kernel
theorem dX7_opensWith_79 : decode cX7_opensWith 79 = .ok (.aload_n 0, 1) := by decide +kernel
theorem dX7_opensWith_80 : decode cX7_opensWith 80 = .ok (.getfield 7, 3) := by decide +kernel
theorem dX7_opensWith_83 : decode cX7_opensWith 83 = .ok (.iload_n 1, 1) := by decide +kernel
theorem dX7_opensWith_84 : decode cX7_opensWith 84 = .ok (.iconst 3, 1) := by decide +kernel
theorem dX7_opensWith_85 : decode cX7_opensWith 85 = .ok (.invokestatic 29, 3) := by decide +kernel
theorem dX7_opensWith_88 : decode cX7_opensWith 88 = .ok (.iload 5, 2) := by decide +kernel
theorem dX7_opensWith_90 : decode cX7_opensWith 90 = .ok (.iastore, 1) := by decide +kernel
theorem dX7_opensWith_91 : decode cX7_opensWith 91 = .ok (.iload 4, 2) := by decide +kernel
theorem dX7_opensWith_93 : decode cX7_opensWith 93 = .ok (.ireturn, 1) := by decide +kernel
set_option maxRecDepth 20000 in
theorem ggX7_bestLie_X7_isStore : GoodIn wsX7_bestLie wsX7_isStore := goodIn_r _ [4, 5, 6, 3, 7] (by decide +kernel) (by decide +kernel)
set_option maxRecDepth 20000 in
theorem gX7_bestLie_X7_isStore : GoodIn wsX7_bestLie (va_wsS RX7 89 yX7_isStore wsX7_isStore) := goodIn_app (goodIn_of _ (by decide +kernel)) ggX7_bestLie_X7_isStore
set_option maxRecDepth 20000 in
theorem ggX7_bestLie_X7_isGate : GoodIn wsX7_bestLie wsX7_isGate := goodIn_r _ [10, 5, 6, 3, 7] (by decide +kernel) (by decide +kernel)
set_option maxRecDepth 20000 in
theorem gX7_bestLie_X7_isGate : GoodIn wsX7_bestLie (va_wsS RX7 98 yX7_isGate wsX7_isGate) := goodIn_app (goodIn_of _ (by decide +kernel)) ggX7_bestLie_X7_isGate
set_option maxRecDepth 20000 in
theorem ggX7_bestLie_X7_opensWith : GoodIn wsX7_bestLie wsX7_opensWith := goodIn_r _ [14, 15, 16, 17, 3, 18, 19, 20, 21, 22, 23, 24, 25, 26, 27, 28, 29, 30, 31, 32, 33, 34, 35, 36, 37] (by decide +kernel) (by decide +kernel)
set_option maxRecDepth 20000 in
theorem gX7_bestLie_X7_opensWith : GoodIn wsX7_bestLie (wsV RX7 138 RX7 yX7_opensWith wsX7_opensWith) := goodIn_app (goodIn_of _ (by decide +kernel)) ggX7_bestLie_X7_opensWith
theorem dX7_bestLie_0 : decode cX7_bestLie 0 = .ok (.iload_n 1, 1) := by decide +kernel
theorem dX7_bestLie_1 : decode cX7_bestLie 1 = .ok (.invokestatic 89, 3) := by decide +kernel
theorem dX7_bestLie_4 : decode cX7_bestLie 4 = .ok (.ifCond .eq 10, 3) := by decide +kernel
theorem dX7_bestLie_7 : decode cX7_bestLie 7 = .ok (.iload_n 2, 1) := by decide +kernel
theorem dX7_bestLie_8 : decode cX7_bestLie 8 = .ok (.invokestatic 98, 3) := by decide +kernel
theorem dX7_bestLie_11 : decode cX7_bestLie 11 = .ok (.ifCond .ne 7, 3) := by decide +kernel
theorem dX7_bestLie_14 : decode cX7_bestLie 14 = .ok (.sipush (-1001), 3) := by decide +kernel
theorem dX7_bestLie_17 : decode cX7_bestLie 17 = .ok (.ireturn, 1) := by decide +kernel
theorem dX7_bestLie_18 : decode cX7_bestLie 18 = .ok (.iconst 0, 1) := by decide +kernel
theorem dX7_bestLie_19 : decode cX7_bestLie 19 = .ok (.istore_n 3, 1) := by decide +kernel
theorem dX7_bestLie_20 : decode cX7_bestLie 20 = .ok (.iconst (-1), 1) := by decide +kernel
theorem dX7_bestLie_21 : decode cX7_bestLie 21 = .ok (.istore 4, 2) := by decide +kernel
theorem dX7_bestLie_23 : decode cX7_bestLie 23 = .ok (.iconst 0, 1) := by decide +kernel
theorem dX7_bestLie_24 : decode cX7_bestLie 24 = .ok (.istore 5, 2) := by decide +kernel
theorem dX7_bestLie_26 : decode cX7_bestLie 26 = .ok (.iload 5, 2) := by decide +kernel
theorem dX7_bestLie_28 : decode cX7_bestLie 28 = .ok (.bipush 101, 2) := by decide +kernel
theorem dX7_bestLie_30 : decode cX7_bestLie 30 = .ok (.if_icmp .ge 73, 3) := by decide +kernel
theorem dX7_bestLie_33 : decode cX7_bestLie 33 = .ok (.iload 5, 2) := by decide +kernel
theorem dX7_bestLie_35 : decode cX7_bestLie 35 = .ok (.iconst 2, 1) := by decide +kernel
theorem dX7_bestLie_36 : decode cX7_bestLie 36 = .ok (.irem, 1) := by decide +kernel
theorem dX7_bestLie_37 : decode cX7_bestLie 37 = .ok (.iconst 1, 1) := by decide +kernel
theorem dX7_bestLie_38 : decode cX7_bestLie 38 = .ok (.if_icmp .ne 13, 3) := by decide +kernel
theorem dX7_bestLie_41 : decode cX7_bestLie 41 = .ok (.iload 5, 2) := by decide +kernel
theorem dX7_bestLie_43 : decode cX7_bestLie 43 = .ok (.iconst 2, 1) := by decide +kernel
theorem dX7_bestLie_44 : decode cX7_bestLie 44 = .ok (.idiv, 1) := by decide +kernel
theorem dX7_bestLie_45 : decode cX7_bestLie 45 = .ok (.ineg, 1) := by decide +kernel
theorem dX7_bestLie_46 : decode cX7_bestLie 46 = .ok (.iconst 1, 1) := by decide +kernel
theorem dX7_bestLie_47 : decode cX7_bestLie 47 = .ok (.isub, 1) := by decide +kernel
theorem dX7_bestLie_48 : decode cX7_bestLie 48 = .ok (.goto 7, 3) := by decide +kernel
theorem dX7_bestLie_51 : decode cX7_bestLie 51 = .ok (.iload 5, 2) := by decide +kernel
theorem dX7_bestLie_53 : decode cX7_bestLie 53 = .ok (.iconst 2, 1) := by decide +kernel
theorem dX7_bestLie_54 : decode cX7_bestLie 54 = .ok (.idiv, 1) := by decide +kernel
theorem dX7_bestLie_55 : decode cX7_bestLie 55 = .ok (.istore 6, 2) := by decide +kernel
theorem dX7_bestLie_57 : decode cX7_bestLie 57 = .ok (.aload_n 0, 1) := by decide +kernel
theorem dX7_bestLie_58 : decode cX7_bestLie 58 = .ok (.iload_n 1, 1) := by decide +kernel
theorem dX7_bestLie_59 : decode cX7_bestLie 59 = .ok (.iload_n 2, 1) := by decide +kernel
theorem dX7_bestLie_60 : decode cX7_bestLie 60 = .ok (.iload 6, 2) := by decide +kernel
theorem dX7_bestLie_62 : decode cX7_bestLie 62 = .ok (.invokevirtual 138, 3) := by decide +kernel
theorem dX7_bestLie_65 : decode cX7_bestLie 65 = .ok (.istore 7, 2) := by decide +kernel
theorem dX7_bestLie_67 : decode cX7_bestLie 67 = .ok (.iload 7, 2) := by decide +kernel
theorem dX7_bestLie_69 : decode cX7_bestLie 69 = .ok (.iload 4, 2) := by decide +kernel
theorem dX7_bestLie_71 : decode cX7_bestLie 71 = .ok (.if_icmp .le 8, 3) := by decide +kernel
theorem dX7_bestLie_74 : decode cX7_bestLie 74 = .ok (.iload 6, 2) := by decide +kernel
theorem dX7_bestLie_76 : decode cX7_bestLie 76 = .ok (.goto 4, 3) := by decide +kernel
theorem dX7_bestLie_79 : decode cX7_bestLie 79 = .ok (.iload_n 3, 1) := by decide +kernel
theorem dX7_bestLie_80 : decode cX7_bestLie 80 = .ok (.istore_n 3, 1) := by decide +kernel
theorem dX7_bestLie_81 : decode cX7_bestLie 81 = .ok (.iload 7, 2) := by decide +kernel
theorem dX7_bestLie_83 : decode cX7_bestLie 83 = .ok (.iload 4, 2) := by decide +kernel
theorem dX7_bestLie_85 : decode cX7_bestLie 85 = .ok (.if_icmp .le 8, 3) := by decide +kernel
theorem dX7_bestLie_88 : decode cX7_bestLie 88 = .ok (.iload 7, 2) := by decide +kernel
theorem dX7_bestLie_90 : decode cX7_bestLie 90 = .ok (.goto 5, 3) := by decide +kernel
theorem dX7_bestLie_93 : decode cX7_bestLie 93 = .ok (.iload 4, 2) := by decide +kernel
theorem dX7_bestLie_95 : decode cX7_bestLie 95 = .ok (.istore 4, 2) := by decide +kernel
theorem dX7_bestLie_97 : decode cX7_bestLie 97 = .ok (.iinc 5 1, 3) := by decide +kernel
theorem dX7_bestLie_100 : decode cX7_bestLie 100 = .ok (.goto (-74), 3) := by decide +kernel
theorem dX7_bestLie_103 : decode cX7_bestLie 103 = .ok (.iload_n 3, 1) := by decide +kernel
theorem dX7_bestLie_104 : decode cX7_bestLie 104 = .ok (.ireturn, 1) := by decide +kernel
set_option maxRecDepth 20000 in
theorem ggX7_write_X7_in : GoodIn wsX7_write wsX7_in := goodIn_r _ [7] (by decide +kernel) (by decide +kernel)
set_option maxRecDepth 20000 in
theorem gX7_write_X7_in : GoodIn wsX7_write (va_wsS RX7 36 yX7_in wsX7_in) := goodIn_app (goodIn_of _ (by decide +kernel)) ggX7_write_X7_in
theorem dX7_write_0 : decode cX7_write 0 = .ok (.iconst 0, 1) := by decide +kernel
theorem dX7_write_1 : decode cX7_write 1 = .ok (.istore_n 3, 1) := by decide +kernel
theorem dX7_write_2 : decode cX7_write 2 = .ok (.iconst 0, 1) := by decide +kernel
theorem dX7_write_3 : decode cX7_write 3 = .ok (.istore 4, 2) := by decide +kernel
theorem dX7_write_5 : decode cX7_write 5 = .ok (.iconst 0, 1) := by decide +kernel
theorem dX7_write_6 : decode cX7_write 6 = .ok (.istore 5, 2) := by decide +kernel
theorem dX7_write_8 : decode cX7_write 8 = .ok (.iload 5, 2) := by decide +kernel
theorem dX7_write_10 : decode cX7_write 10 = .ok (.bipush 8, 2) := by decide +kernel
theorem dX7_write_12 : decode cX7_write 12 = .ok (.if_icmp .ge 89, 3) := by decide +kernel
theorem dX7_write_15 : decode cX7_write 15 = .ok (.lload_n 1, 1) := by decide +kernel
theorem dX7_write_16 : decode cX7_write 16 = .ok (.bipush 8, 2) := by decide +kernel
theorem dX7_write_18 : decode cX7_write 18 = .ok (.iload 5, 2) := by decide +kernel
theorem dX7_write_20 : decode cX7_write 20 = .ok (.imul, 1) := by decide +kernel
theorem dX7_write_21 : decode cX7_write 21 = .ok (.lushr, 1) := by decide +kernel
theorem dX7_write_22 : decode cX7_write 22 = .ok (.ldc2_w 142, 3) := by decide +kernel
theorem dX7_write_25 : decode cX7_write 25 = .ok (.land, 1) := by decide +kernel
theorem dX7_write_26 : decode cX7_write 26 = .ok (.l2i, 1) := by decide +kernel
theorem dX7_write_27 : decode cX7_write 27 = .ok (.istore 6, 2) := by decide +kernel
theorem dX7_write_29 : decode cX7_write 29 = .ok (.iload 5, 2) := by decide +kernel
theorem dX7_write_31 : decode cX7_write 31 = .ok (.ifCond .le 19, 3) := by decide +kernel
theorem dX7_write_34 : decode cX7_write 34 = .ok (.lload_n 1, 1) := by decide +kernel
theorem dX7_write_35 : decode cX7_write 35 = .ok (.bipush 8, 2) := by decide +kernel
theorem dX7_write_37 : decode cX7_write 37 = .ok (.iload 5, 2) := by decide +kernel
theorem dX7_write_39 : decode cX7_write 39 = .ok (.imul, 1) := by decide +kernel
theorem dX7_write_40 : decode cX7_write 40 = .ok (.lushr, 1) := by decide +kernel
theorem dX7_write_41 : decode cX7_write 41 = .ok (.lconst 0, 1) := by decide +kernel
theorem dX7_write_42 : decode cX7_write 42 = .ok (.lcmp, 1) := by decide +kernel
theorem dX7_write_43 : decode cX7_write 43 = .ok (.ifCond .ne 7, 3) := by decide +kernel
theorem dX7_write_46 : decode cX7_write 46 = .ok (.iconst 1, 1) := by decide +kernel
theorem dX7_write_47 : decode cX7_write 47 = .ok (.goto 4, 3) := by decide +kernel
theorem dX7_write_50 : decode cX7_write 50 = .ok (.iconst 0, 1) := by decide +kernel
theorem dX7_write_51 : decode cX7_write 51 = .ok (.istore 7, 2) := by decide +kernel
theorem dX7_write_53 : decode cX7_write 53 = .ok (.iload 4, 2) := by decide +kernel
theorem dX7_write_55 : decode cX7_write 55 = .ok (.ifCond .ne 20, 3) := by decide +kernel
theorem dX7_write_58 : decode cX7_write 58 = .ok (.iload 7, 2) := by decide +kernel
theorem dX7_write_60 : decode cX7_write 60 = .ok (.ifCond .ne 19, 3) := by decide +kernel
theorem dX7_write_63 : decode cX7_write 63 = .ok (.iload 6, 2) := by decide +kernel
theorem dX7_write_65 : decode cX7_write 65 = .ok (.bipush 33, 2) := by decide +kernel
theorem dX7_write_67 : decode cX7_write 67 = .ok (.bipush 126, 2) := by decide +kernel
theorem dX7_write_69 : decode cX7_write 69 = .ok (.invokestatic 36, 3) := by decide +kernel
theorem dX7_write_72 : decode cX7_write 72 = .ok (.ifCond .ne 7, 3) := by decide +kernel
theorem dX7_write_75 : decode cX7_write 75 = .ok (.iconst 1, 1) := by decide +kernel
theorem dX7_write_76 : decode cX7_write 76 = .ok (.goto 4, 3) := by decide +kernel
theorem dX7_write_79 : decode cX7_write 79 = .ok (.iconst 0, 1) := by decide +kernel
theorem dX7_write_80 : decode cX7_write 80 = .ok (.istore 4, 2) := by decide +kernel
theorem dX7_write_82 : decode cX7_write 82 = .ok (.iload_n 3, 1) := by decide +kernel
theorem dX7_write_83 : decode cX7_write 83 = .ok (.iload 7, 2) := by decide +kernel
theorem dX7_write_85 : decode cX7_write 85 = .ok (.ifCond .eq 7, 3) := by decide +kernel
theorem dX7_write_88 : decode cX7_write 88 = .ok (.iconst 0, 1) := by decide +kernel
theorem dX7_write_89 : decode cX7_write 89 = .ok (.goto 4, 3) := by decide +kernel
theorem dX7_write_92 : decode cX7_write 92 = .ok (.iconst 1, 1) := by decide +kernel
theorem dX7_write_93 : decode cX7_write 93 = .ok (.iadd, 1) := by decide +kernel
theorem dX7_write_94 : decode cX7_write 94 = .ok (.istore_n 3, 1) := by decide +kernel
theorem dX7_write_95 : decode cX7_write 95 = .ok (.iinc 5 1, 3) := by decide +kernel
theorem dX7_write_98 : decode cX7_write 98 = .ok (.goto (-90), 3) := by decide +kernel
theorem dX7_write_101 : decode cX7_write 101 = .ok (.iload 4, 2) := by decide +kernel
theorem dX7_write_103 : decode cX7_write 103 = .ok (.ifCond .eq 7, 3) := by decide +kernel
theorem dX7_write_106 : decode cX7_write 106 = .ok (.sipush (-1002), 3) := by decide +kernel
theorem dX7_write_109 : decode cX7_write 109 = .ok (.ireturn, 1) := by decide +kernel
theorem dX7_write_110 : decode cX7_write 110 = .ok (.aload_n 0, 1) := by decide +kernel
theorem dX7_write_111 : decode cX7_write 111 = .ok (.getfield 123, 3) := by decide +kernel
theorem dX7_write_114 : decode cX7_write 114 = .ok (.iload_n 3, 1) := by decide +kernel
theorem dX7_write_115 : decode cX7_write 115 = .ok (.iadd, 1) := by decide +kernel
theorem dX7_write_116 : decode cX7_write 116 = .ok (.bipush 60, 2) := by decide +kernel
theorem dX7_write_118 : decode cX7_write 118 = .ok (.if_icmp .le 7, 3) := by decide +kernel
theorem dX7_write_121 : decode cX7_write 121 = .ok (.sipush (-1004), 3) := by decide +kernel
theorem dX7_write_124 : decode cX7_write 124 = .ok (.ireturn, 1) := by decide +kernel
theorem dX7_write_125 : decode cX7_write 125 = .ok (.iconst 0, 1) := by decide +kernel
theorem dX7_write_126 : decode cX7_write 126 = .ok (.istore 5, 2) := by decide +kernel
theorem dX7_write_128 : decode cX7_write 128 = .ok (.iload 5, 2) := by decide +kernel
theorem dX7_write_130 : decode cX7_write 130 = .ok (.iload_n 3, 1) := by decide +kernel
theorem dX7_write_131 : decode cX7_write 131 = .ok (.if_icmp .ge 37, 3) := by decide +kernel
theorem dX7_write_134 : decode cX7_write 134 = .ok (.aload_n 0, 1) := by decide +kernel
theorem dX7_write_135 : decode cX7_write 135 = .ok (.getfield 26, 3) := by decide +kernel
theorem dX7_write_138 : decode cX7_write 138 = .ok (.aload_n 0, 1) := by decide +kernel
theorem dX7_write_139 : decode cX7_write 139 = .ok (.getfield 123, 3) := by decide +kernel
theorem dX7_write_142 : decode cX7_write 142 = .ok (.iload_n 3, 1) := by decide +kernel
theorem dX7_write_143 : decode cX7_write 143 = .ok (.iadd, 1) := by decide +kernel
theorem dX7_write_144 : decode cX7_write 144 = .ok (.iconst 1, 1) := by decide +kernel
theorem dX7_write_145 : decode cX7_write 145 = .ok (.isub, 1) := by decide +kernel
theorem dX7_write_146 : decode cX7_write 146 = .ok (.iload 5, 2) := by decide +kernel
theorem dX7_write_148 : decode cX7_write 148 = .ok (.isub, 1) := by decide +kernel
theorem dX7_write_149 : decode cX7_write 149 = .ok (.lload_n 1, 1) := by decide +kernel
theorem dX7_write_150 : decode cX7_write 150 = .ok (.bipush 8, 2) := by decide +kernel
theorem dX7_write_152 : decode cX7_write 152 = .ok (.iload 5, 2) := by decide +kernel
theorem dX7_write_154 : decode cX7_write 154 = .ok (.imul, 1) := by decide +kernel
theorem dX7_write_155 : decode cX7_write 155 = .ok (.lushr, 1) := by decide +kernel
theorem dX7_write_156 : decode cX7_write 156 = .ok (.ldc2_w 142, 3) := by decide +kernel
theorem dX7_write_159 : decode cX7_write 159 = .ok (.land, 1) := by decide +kernel
theorem dX7_write_160 : decode cX7_write 160 = .ok (.l2i, 1) := by decide +kernel
theorem dX7_write_161 : decode cX7_write 161 = .ok (.iastore, 1) := by decide +kernel
theorem dX7_write_162 : decode cX7_write 162 = .ok (.iinc 5 1, 3) := by decide +kernel
theorem dX7_write_165 : decode cX7_write 165 = .ok (.goto (-37), 3) := by decide +kernel
theorem dX7_write_168 : decode cX7_write 168 = .ok (.aload_n 0, 1) := by decide +kernel
theorem dX7_write_169 : decode cX7_write 169 = .ok (.dup, 1) := by decide +kernel
theorem dX7_write_170 : decode cX7_write 170 = .ok (.getfield 123, 3) := by decide +kernel
theorem dX7_write_173 : decode cX7_write 173 = .ok (.iload_n 3, 1) := by decide +kernel
theorem dX7_write_174 : decode cX7_write 174 = .ok (.iadd, 1) := by decide +kernel
theorem dX7_write_175 : decode cX7_write 175 = .ok (.putfield 123, 3) := by decide +kernel
theorem dX7_write_178 : decode cX7_write 178 = .ok (.aload_n 0, 1) := by decide +kernel
theorem dX7_write_179 : decode cX7_write 179 = .ok (.getfield 123, 3) := by decide +kernel
theorem dX7_write_182 : decode cX7_write 182 = .ok (.ireturn, 1) := by decide +kernel
theorem dX7_wipe_0 : decode cX7_wipe 0 = .ok (.aload_n 0, 1) := by decide +kernel
theorem dX7_wipe_1 : decode cX7_wipe 1 = .ok (.getfield 123, 3) := by decide +kernel
theorem dX7_wipe_4 : decode cX7_wipe 4 = .ok (.istore_n 1, 1) := by decide +kernel
theorem dX7_wipe_5 : decode cX7_wipe 5 = .ok (.aload_n 0, 1) := by decide +kernel
theorem dX7_wipe_6 : decode cX7_wipe 6 = .ok (.iconst 0, 1) := by decide +kernel
theorem dX7_wipe_7 : decode cX7_wipe 7 = .ok (.putfield 123, 3) := by decide +kernel
theorem dX7_wipe_10 : decode cX7_wipe 10 = .ok (.iload_n 1, 1) := by decide +kernel
theorem dX7_wipe_11 : decode cX7_wipe 11 = .ok (.ireturn, 1) := by decide +kernel
set_option maxRecDepth 20000 in
theorem ggX7_behind_X7_in : GoodIn wsX7_behind wsX7_in := goodIn_r _ [6] (by decide +kernel) (by decide +kernel)
set_option maxRecDepth 20000 in
theorem gX7_behind_X7_in : GoodIn wsX7_behind (va_wsS RX7 36 yX7_in wsX7_in) := goodIn_app (goodIn_of _ (by decide +kernel)) ggX7_behind_X7_in
theorem dX7_behind_0 : decode cX7_behind 0 = .ok (.iload_n 1, 1) := by decide +kernel
theorem dX7_behind_1 : decode cX7_behind 1 = .ok (.istore_n 2, 1) := by decide +kernel
theorem dX7_behind_2 : decode cX7_behind 2 = .ok (.iload_n 2, 1) := by decide +kernel
theorem dX7_behind_3 : decode cX7_behind 3 = .ok (.aload_n 0, 1) := by decide +kernel
theorem dX7_behind_4 : decode cX7_behind 4 = .ok (.getfield 123, 3) := by decide +kernel
theorem dX7_behind_7 : decode cX7_behind 7 = .ok (.if_icmp .ge 33, 3) := by decide +kernel
theorem dX7_behind_10 : decode cX7_behind 10 = .ok (.iload_n 2, 1) := by decide +kernel
theorem dX7_behind_11 : decode cX7_behind 11 = .ok (.iload_n 1, 1) := by decide +kernel
theorem dX7_behind_12 : decode cX7_behind 12 = .ok (.bipush 6, 2) := by decide +kernel
theorem dX7_behind_14 : decode cX7_behind 14 = .ok (.iadd, 1) := by decide +kernel
theorem dX7_behind_15 : decode cX7_behind 15 = .ok (.if_icmp .ge 25, 3) := by decide +kernel
theorem dX7_behind_18 : decode cX7_behind 18 = .ok (.aload_n 0, 1) := by decide +kernel
theorem dX7_behind_19 : decode cX7_behind 19 = .ok (.getfield 26, 3) := by decide +kernel
theorem dX7_behind_22 : decode cX7_behind 22 = .ok (.iload_n 2, 1) := by decide +kernel
theorem dX7_behind_23 : decode cX7_behind 23 = .ok (.iaload, 1) := by decide +kernel
theorem dX7_behind_24 : decode cX7_behind 24 = .ok (.bipush 97, 2) := by decide +kernel
theorem dX7_behind_26 : decode cX7_behind 26 = .ok (.bipush 122, 2) := by decide +kernel
theorem dX7_behind_28 : decode cX7_behind 28 = .ok (.invokestatic 36, 3) := by decide +kernel
theorem dX7_behind_31 : decode cX7_behind 31 = .ok (.ifCond .eq 9, 3) := by decide +kernel
theorem dX7_behind_34 : decode cX7_behind 34 = .ok (.iinc 2 1, 3) := by decide +kernel
theorem dX7_behind_37 : decode cX7_behind 37 = .ok (.goto (-35), 3) := by decide +kernel
theorem dX7_behind_40 : decode cX7_behind 40 = .ok (.iload_n 2, 1) := by decide +kernel
theorem dX7_behind_41 : decode cX7_behind 41 = .ok (.ireturn, 1) := by decide +kernel
set_option maxRecDepth 20000 in
theorem ggX7_wrong_X7_behind : GoodIn wsX7_wrong wsX7_behind := goodIn_r _ [7, 1, 2, 8, 9, 6, 10, 11, 12, 13, 14, 15, 16, 17, 18] (by decide +kernel) (by decide +kernel)
set_option maxRecDepth 20000 in
theorem gX7_wrong_X7_behind : GoodIn wsX7_wrong (wsV RX7 144 RX7 yX7_behind wsX7_behind) := goodIn_app (goodIn_of _ (by decide +kernel)) ggX7_wrong_X7_behind
theorem dX7_wrong_0 : decode cX7_wrong 0 = .ok (.iconst 0, 1) := by decide +kernel
theorem dX7_wrong_1 : decode cX7_wrong 1 = .ok (.istore_n 1, 1) := by decide +kernel
theorem dX7_wrong_2 : decode cX7_wrong 2 = .ok (.aload_n 0, 1) := by decide +kernel
theorem dX7_wrong_3 : decode cX7_wrong 3 = .ok (.iload_n 1, 1) := by decide +kernel
theorem dX7_wrong_4 : decode cX7_wrong 4 = .ok (.invokevirtual 144, 3) := by decide +kernel
theorem dX7_wrong_7 : decode cX7_wrong 7 = .ok (.istore_n 2, 1) := by decide +kernel
theorem dX7_wrong_8 : decode cX7_wrong 8 = .ok (.iload_n 2, 1) := by decide +kernel
theorem dX7_wrong_9 : decode cX7_wrong 9 = .ok (.iload_n 1, 1) := by decide +kernel
theorem dX7_wrong_10 : decode cX7_wrong 10 = .ok (.if_icmp .eq 22, 3) := by decide +kernel
theorem dX7_wrong_13 : decode cX7_wrong 13 = .ok (.iload_n 2, 1) := by decide +kernel
theorem dX7_wrong_14 : decode cX7_wrong 14 = .ok (.aload_n 0, 1) := by decide +kernel
theorem dX7_wrong_15 : decode cX7_wrong 15 = .ok (.getfield 123, 3) := by decide +kernel
theorem dX7_wrong_18 : decode cX7_wrong 18 = .ok (.if_icmp .ge 16, 3) := by decide +kernel
theorem dX7_wrong_21 : decode cX7_wrong 21 = .ok (.aload_n 0, 1) := by decide +kernel
theorem dX7_wrong_22 : decode cX7_wrong 22 = .ok (.getfield 26, 3) := by decide +kernel
theorem dX7_wrong_25 : decode cX7_wrong 25 = .ok (.iload_n 2, 1) := by decide +kernel
theorem dX7_wrong_26 : decode cX7_wrong 26 = .ok (.iaload, 1) := by decide +kernel
theorem dX7_wrong_27 : decode cX7_wrong 27 = .ok (.bipush 44, 2) := by decide +kernel
theorem dX7_wrong_29 : decode cX7_wrong 29 = .ok (.if_icmp .eq 5, 3) := by decide +kernel
theorem dX7_wrong_32 : decode cX7_wrong 32 = .ok (.iload_n 2, 1) := by decide +kernel
theorem dX7_wrong_33 : decode cX7_wrong 33 = .ok (.ireturn, 1) := by decide +kernel
theorem dX7_wrong_34 : decode cX7_wrong 34 = .ok (.iload_n 2, 1) := by decide +kernel
theorem dX7_wrong_35 : decode cX7_wrong 35 = .ok (.aload_n 0, 1) := by decide +kernel
theorem dX7_wrong_36 : decode cX7_wrong 36 = .ok (.getfield 123, 3) := by decide +kernel
theorem dX7_wrong_39 : decode cX7_wrong 39 = .ok (.if_icmp .ne 7, 3) := by decide +kernel
theorem dX7_wrong_42 : decode cX7_wrong 42 = .ok (.sipush (-1006), 3) := by decide +kernel
theorem dX7_wrong_45 : decode cX7_wrong 45 = .ok (.ireturn, 1) := by decide +kernel
theorem dX7_wrong_46 : decode cX7_wrong 46 = .ok (.iload_n 2, 1) := by decide +kernel
theorem dX7_wrong_47 : decode cX7_wrong 47 = .ok (.iconst 1, 1) := by decide +kernel
theorem dX7_wrong_48 : decode cX7_wrong 48 = .ok (.iadd, 1) := by decide +kernel
theorem dX7_wrong_49 : decode cX7_wrong 49 = .ok (.istore_n 1, 1) := by decide +kernel
theorem dX7_wrong_50 : decode cX7_wrong 50 = .ok (.goto (-48), 3) := by decide +kernel
set_option maxRecDepth 20000 in
theorem ggX7_fault_X7_wrong : GoodIn wsX7_fault wsX7_wrong := goodIn_r _ [5, 6, 7, 8, 9, 10, 4, 11, 12, 13, 14, 15, 16, 17, 18, 19, 20, 21, 22] (by decide +kernel) (by decide +kernel)
set_option maxRecDepth 20000 in
theorem gX7_fault_X7_wrong : GoodIn wsX7_fault (wsV RX7 147 RX7 yX7_wrong wsX7_wrong) := goodIn_app (goodIn_of _ (by decide +kernel)) ggX7_fault_X7_wrong
theorem dX7_fault_0 : decode cX7_fault 0 = .ok (.aload_n 0, 1) := by decide +kernel
theorem dX7_fault_1 : decode cX7_fault 1 = .ok (.invokevirtual 147, 3) := by decide +kernel
theorem dX7_fault_4 : decode cX7_fault 4 = .ok (.ireturn, 1) := by decide +kernel
theorem dX7_told_0 : decode cX7_told 0 = .ok (.iconst 1, 1) := by decide +kernel
theorem dX7_told_1 : decode cX7_told 1 = .ok (.istore_n 1, 1) := by decide +kernel
theorem dX7_told_2 : decode cX7_told 2 = .ok (.iconst 0, 1) := by decide +kernel
theorem dX7_told_3 : decode cX7_told 3 = .ok (.istore_n 2, 1) := by decide +kernel
theorem dX7_told_4 : decode cX7_told 4 = .ok (.iload_n 2, 1) := by decide +kernel
theorem dX7_told_5 : decode cX7_told 5 = .ok (.aload_n 0, 1) := by decide +kernel
theorem dX7_told_6 : decode cX7_told 6 = .ok (.getfield 123, 3) := by decide +kernel
theorem dX7_told_9 : decode cX7_told 9 = .ok (.if_icmp .ge 28, 3) := by decide +kernel
theorem dX7_told_12 : decode cX7_told 12 = .ok (.iload_n 1, 1) := by decide +kernel
theorem dX7_told_13 : decode cX7_told 13 = .ok (.aload_n 0, 1) := by decide +kernel
theorem dX7_told_14 : decode cX7_told 14 = .ok (.getfield 26, 3) := by decide +kernel
theorem dX7_told_17 : decode cX7_told 17 = .ok (.iload_n 2, 1) := by decide +kernel
theorem dX7_told_18 : decode cX7_told 18 = .ok (.iaload, 1) := by decide +kernel
theorem dX7_told_19 : decode cX7_told 19 = .ok (.bipush 44, 2) := by decide +kernel
theorem dX7_told_21 : decode cX7_told 21 = .ok (.if_icmp .ne 7, 3) := by decide +kernel
theorem dX7_told_24 : decode cX7_told 24 = .ok (.iconst 1, 1) := by decide +kernel
theorem dX7_told_25 : decode cX7_told 25 = .ok (.goto 4, 3) := by decide +kernel
theorem dX7_told_28 : decode cX7_told 28 = .ok (.iconst 0, 1) := by decide +kernel
theorem dX7_told_29 : decode cX7_told 29 = .ok (.iadd, 1) := by decide +kernel
theorem dX7_told_30 : decode cX7_told 30 = .ok (.istore_n 1, 1) := by decide +kernel
theorem dX7_told_31 : decode cX7_told 31 = .ok (.iinc 2 1, 3) := by decide +kernel
theorem dX7_told_34 : decode cX7_told 34 = .ok (.goto (-30), 3) := by decide +kernel
theorem dX7_told_37 : decode cX7_told 37 = .ok (.iload_n 1, 1) := by decide +kernel
theorem dX7_told_38 : decode cX7_told 38 = .ok (.ireturn, 1) := by decide +kernel
set_option maxRecDepth 20000 in
theorem ggX7_put_X7_isStore : GoodIn wsX7_put wsX7_isStore := goodIn_r _ [7, 8, 9, 6, 10] (by decide +kernel) (by decide +kernel)
set_option maxRecDepth 20000 in
theorem gX7_put_X7_isStore : GoodIn wsX7_put (va_wsS RX7 89 yX7_isStore wsX7_isStore) := goodIn_app (goodIn_of _ (by decide +kernel)) ggX7_put_X7_isStore
set_option maxRecDepth 20000 in
theorem ggX7_put_X7_wrong : GoodIn wsX7_put wsX7_wrong := goodIn_r _ [14, 2, 3, 15, 16, 17, 6, 18, 8, 9, 10, 39, 40, 41, 42, 43, 44, 45, 46] (by decide +kernel) (by decide +kernel)
set_option maxRecDepth 20000 in
theorem gX7_put_X7_wrong : GoodIn wsX7_put (wsV RX7 147 RX7 yX7_wrong wsX7_wrong) := goodIn_app (goodIn_of _ (by decide +kernel)) ggX7_put_X7_wrong
set_option maxRecDepth 20000 in
theorem ggX7_put_X7_told : GoodIn wsX7_put wsX7_told := goodIn_r _ [22, 2, 3, 39, 40, 41, 42, 43, 44, 45, 46] (by decide +kernel) (by decide +kernel)
set_option maxRecDepth 20000 in
theorem gX7_put_X7_told : GoodIn wsX7_put (wsV RX7 150 RX7 yX7_told wsX7_told) := goodIn_app (goodIn_of _ (by decide +kernel)) ggX7_put_X7_told
set_option maxRecDepth 20000 in
theorem ggX7_put_X7_record : GoodIn wsX7_put wsX7_record := goodIn_r _ [26, 27, 28, 1, 39, 40, 41, 42, 43, 44, 45, 46] (by decide +kernel) (by decide +kernel)
set_option maxRecDepth 20000 in
theorem gX7_put_X7_record : GoodIn wsX7_put (wsV RX7 92 RX7 yX7_record wsX7_record) := goodIn_app (goodIn_of _ (by decide +kernel)) ggX7_put_X7_record
set_option maxRecDepth 20000 in
theorem ggX7_put_X7_ofWord : GoodIn wsX7_put wsX7_ofWord := goodIn_r _ [31] (by decide +kernel) (by decide +kernel)
set_option maxRecDepth 20000 in
theorem gX7_put_X7_ofWord : GoodIn wsX7_put (va_wsS RX7 55 yX7_ofWord wsX7_ofWord) := goodIn_app (goodIn_of _ (by decide +kernel)) ggX7_put_X7_ofWord
set_option maxRecDepth 20000 in
theorem ggX7_put_X7_comes : GoodIn wsX7_put wsX7_comes := goodIn_r _ [35, 1, 36, 37, 6, 38, 39, 40, 41, 42, 43, 44, 45, 46] (by decide +kernel) (by decide +kernel)
set_option maxRecDepth 20000 in
theorem gX7_put_X7_comes : GoodIn wsX7_put (wsV RX7 71 RX7 yX7_comes wsX7_comes) := goodIn_app (goodIn_of _ (by decide +kernel)) ggX7_put_X7_comes
theorem dX7_put_0 : decode cX7_put 0 = .ok (.iload_n 1, 1) := by decide +kernel
theorem dX7_put_1 : decode cX7_put 1 = .ok (.invokestatic 89, 3) := by decide +kernel
theorem dX7_put_4 : decode cX7_put 4 = .ok (.ifCond .ne 7, 3) := by decide +kernel
theorem dX7_put_7 : decode cX7_put 7 = .ok (.sipush (-1001), 3) := by decide +kernel
theorem dX7_put_10 : decode cX7_put 10 = .ok (.ireturn, 1) := by decide +kernel
theorem dX7_put_11 : decode cX7_put 11 = .ok (.aload_n 0, 1) := by decide +kernel
theorem dX7_put_12 : decode cX7_put 12 = .ok (.invokevirtual 147, 3) := by decide +kernel
theorem dX7_put_15 : decode cX7_put 15 = .ok (.sipush (-1006), 3) := by decide +kernel
theorem dX7_put_18 : decode cX7_put 18 = .ok (.if_icmp .eq 7, 3) := by decide +kernel
theorem dX7_put_21 : decode cX7_put 21 = .ok (.sipush (-1003), 3) := by decide +kernel
theorem dX7_put_24 : decode cX7_put 24 = .ok (.ireturn, 1) := by decide +kernel
theorem dX7_put_25 : decode cX7_put 25 = .ok (.aload_n 0, 1) := by decide +kernel
theorem dX7_put_26 : decode cX7_put 26 = .ok (.getfield 7, 3) := by decide +kernel
theorem dX7_put_29 : decode cX7_put 29 = .ok (.iconst 4, 1) := by decide +kernel
theorem dX7_put_30 : decode cX7_put 30 = .ok (.iaload, 1) := by decide +kernel
theorem dX7_put_31 : decode cX7_put 31 = .ok (.aload_n 0, 1) := by decide +kernel
theorem dX7_put_32 : decode cX7_put 32 = .ok (.invokevirtual 150, 3) := by decide +kernel
theorem dX7_put_35 : decode cX7_put 35 = .ok (.iadd, 1) := by decide +kernel
theorem dX7_put_36 : decode cX7_put 36 = .ok (.bipush 12, 2) := by decide +kernel
theorem dX7_put_38 : decode cX7_put 38 = .ok (.if_icmp .le 7, 3) := by decide +kernel
theorem dX7_put_41 : decode cX7_put 41 = .ok (.sipush (-1004), 3) := by decide +kernel
theorem dX7_put_44 : decode cX7_put 44 = .ok (.ireturn, 1) := by decide +kernel
theorem dX7_put_45 : decode cX7_put 45 = .ok (.aload_n 0, 1) := by decide +kernel
theorem dX7_put_46 : decode cX7_put 46 = .ok (.invokevirtual 92, 3) := by decide +kernel
theorem dX7_put_49 : decode cX7_put 49 = .ok (.iconst 0, 1) := by decide +kernel
theorem dX7_put_50 : decode cX7_put 50 = .ok (.istore_n 2, 1) := by decide +kernel
theorem dX7_put_51 : decode cX7_put 51 = .ok (.iconst 0, 1) := by decide +kernel
theorem dX7_put_52 : decode cX7_put 52 = .ok (.istore_n 3, 1) := by decide +kernel
theorem dX7_put_53 : decode cX7_put 53 = .ok (.iload_n 3, 1) := by decide +kernel
theorem dX7_put_54 : decode cX7_put 54 = .ok (.aload_n 0, 1) := by decide +kernel
theorem dX7_put_55 : decode cX7_put 55 = .ok (.getfield 123, 3) := by decide +kernel
theorem dX7_put_58 : decode cX7_put 58 = .ok (.if_icmp .gt 139, 3) := by decide +kernel
theorem dX7_put_61 : decode cX7_put 61 = .ok (.iload_n 3, 1) := by decide +kernel
theorem dX7_put_62 : decode cX7_put 62 = .ok (.aload_n 0, 1) := by decide +kernel
theorem dX7_put_63 : decode cX7_put 63 = .ok (.getfield 123, 3) := by decide +kernel
theorem dX7_put_66 : decode cX7_put 66 = .ok (.if_icmp .ge 34, 3) := by decide +kernel
theorem dX7_put_69 : decode cX7_put 69 = .ok (.aload_n 0, 1) := by decide +kernel
theorem dX7_put_70 : decode cX7_put 70 = .ok (.getfield 26, 3) := by decide +kernel
theorem dX7_put_73 : decode cX7_put 73 = .ok (.iload_n 3, 1) := by decide +kernel
theorem dX7_put_74 : decode cX7_put 74 = .ok (.iaload, 1) := by decide +kernel
theorem dX7_put_75 : decode cX7_put 75 = .ok (.bipush 44, 2) := by decide +kernel
theorem dX7_put_77 : decode cX7_put 77 = .ok (.if_icmp .eq 23, 3) := by decide +kernel
theorem dX7_put_80 : decode cX7_put 80 = .ok (.bipush 27, 2) := by decide +kernel
theorem dX7_put_82 : decode cX7_put 82 = .ok (.iload_n 2, 1) := by decide +kernel
theorem dX7_put_83 : decode cX7_put 83 = .ok (.imul, 1) := by decide +kernel
theorem dX7_put_84 : decode cX7_put 84 = .ok (.aload_n 0, 1) := by decide +kernel
theorem dX7_put_85 : decode cX7_put 85 = .ok (.getfield 26, 3) := by decide +kernel
theorem dX7_put_88 : decode cX7_put 88 = .ok (.iload_n 3, 1) := by decide +kernel
theorem dX7_put_89 : decode cX7_put 89 = .ok (.iaload, 1) := by decide +kernel
theorem dX7_put_90 : decode cX7_put 90 = .ok (.iadd, 1) := by decide +kernel
theorem dX7_put_91 : decode cX7_put 91 = .ok (.bipush 97, 2) := by decide +kernel
theorem dX7_put_93 : decode cX7_put 93 = .ok (.isub, 1) := by decide +kernel
theorem dX7_put_94 : decode cX7_put 94 = .ok (.iconst 1, 1) := by decide +kernel
theorem dX7_put_95 : decode cX7_put 95 = .ok (.iadd, 1) := by decide +kernel
theorem dX7_put_96 : decode cX7_put 96 = .ok (.istore_n 2, 1) := by decide +kernel
theorem dX7_put_97 : decode cX7_put 97 = .ok (.goto 94, 3) := by decide +kernel
theorem dX7_put_100 : decode cX7_put 100 = .ok (.aload_n 0, 1) := by decide +kernel
theorem dX7_put_101 : decode cX7_put 101 = .ok (.getfield 7, 3) := by decide +kernel
theorem dX7_put_104 : decode cX7_put 104 = .ok (.iconst 4, 1) := by decide +kernel
theorem dX7_put_105 : decode cX7_put 105 = .ok (.iaload, 1) := by decide +kernel
theorem dX7_put_106 : decode cX7_put 106 = .ok (.istore 4, 2) := by decide +kernel
theorem dX7_put_108 : decode cX7_put 108 = .ok (.aload_n 0, 1) := by decide +kernel
theorem dX7_put_109 : decode cX7_put 109 = .ok (.getfield 7, 3) := by decide +kernel
theorem dX7_put_112 : decode cX7_put 112 = .ok (.iconst 4, 1) := by decide +kernel
theorem dX7_put_113 : decode cX7_put 113 = .ok (.dup2, 1) := by decide +kernel
theorem dX7_put_114 : decode cX7_put 114 = .ok (.iaload, 1) := by decide +kernel
theorem dX7_put_115 : decode cX7_put 115 = .ok (.iconst 1, 1) := by decide +kernel
theorem dX7_put_116 : decode cX7_put 116 = .ok (.iadd, 1) := by decide +kernel
theorem dX7_put_117 : decode cX7_put 117 = .ok (.iastore, 1) := by decide +kernel
theorem dX7_put_118 : decode cX7_put 118 = .ok (.aload_n 0, 1) := by decide +kernel
theorem dX7_put_119 : decode cX7_put 119 = .ok (.getfield 7, 3) := by decide +kernel
theorem dX7_put_122 : decode cX7_put 122 = .ok (.iload 4, 2) := by decide +kernel
theorem dX7_put_124 : decode cX7_put 124 = .ok (.iconst 0, 1) := by decide +kernel
theorem dX7_put_125 : decode cX7_put 125 = .ok (.invokestatic 55, 3) := by decide +kernel
theorem dX7_put_128 : decode cX7_put 128 = .ok (.iload_n 2, 1) := by decide +kernel
theorem dX7_put_129 : decode cX7_put 129 = .ok (.iastore, 1) := by decide +kernel
theorem dX7_put_130 : decode cX7_put 130 = .ok (.aload_n 0, 1) := by decide +kernel
theorem dX7_put_131 : decode cX7_put 131 = .ok (.getfield 7, 3) := by decide +kernel
theorem dX7_put_134 : decode cX7_put 134 = .ok (.iload 4, 2) := by decide +kernel
theorem dX7_put_136 : decode cX7_put 136 = .ok (.iconst 1, 1) := by decide +kernel
theorem dX7_put_137 : decode cX7_put 137 = .ok (.invokestatic 55, 3) := by decide +kernel
theorem dX7_put_140 : decode cX7_put 140 = .ok (.iconst 0, 1) := by decide +kernel
theorem dX7_put_141 : decode cX7_put 141 = .ok (.iastore, 1) := by decide +kernel
theorem dX7_put_142 : decode cX7_put 142 = .ok (.aload_n 0, 1) := by decide +kernel
theorem dX7_put_143 : decode cX7_put 143 = .ok (.getfield 7, 3) := by decide +kernel
theorem dX7_put_146 : decode cX7_put 146 = .ok (.iload 4, 2) := by decide +kernel
theorem dX7_put_148 : decode cX7_put 148 = .ok (.iconst 2, 1) := by decide +kernel
theorem dX7_put_149 : decode cX7_put 149 = .ok (.invokestatic 55, 3) := by decide +kernel
theorem dX7_put_152 : decode cX7_put 152 = .ok (.sipush (-1006), 3) := by decide +kernel
theorem dX7_put_155 : decode cX7_put 155 = .ok (.iastore, 1) := by decide +kernel
theorem dX7_put_156 : decode cX7_put 156 = .ok (.aload_n 0, 1) := by decide +kernel
theorem dX7_put_157 : decode cX7_put 157 = .ok (.getfield 7, 3) := by decide +kernel
theorem dX7_put_160 : decode cX7_put 160 = .ok (.iload 4, 2) := by decide +kernel
theorem dX7_put_162 : decode cX7_put 162 = .ok (.iconst 3, 1) := by decide +kernel
theorem dX7_put_163 : decode cX7_put 163 = .ok (.invokestatic 55, 3) := by decide +kernel
theorem dX7_put_166 : decode cX7_put 166 = .ok (.sipush (-1006), 3) := by decide +kernel
theorem dX7_put_169 : decode cX7_put 169 = .ok (.iastore, 1) := by decide +kernel
theorem dX7_put_170 : decode cX7_put 170 = .ok (.aload_n 0, 1) := by decide +kernel
theorem dX7_put_171 : decode cX7_put 171 = .ok (.getfield 7, 3) := by decide +kernel
theorem dX7_put_174 : decode cX7_put 174 = .ok (.iload 4, 2) := by decide +kernel
theorem dX7_put_176 : decode cX7_put 176 = .ok (.iconst 4, 1) := by decide +kernel
theorem dX7_put_177 : decode cX7_put 177 = .ok (.invokestatic 55, 3) := by decide +kernel
theorem dX7_put_180 : decode cX7_put 180 = .ok (.iconst 0, 1) := by decide +kernel
theorem dX7_put_181 : decode cX7_put 181 = .ok (.iastore, 1) := by decide +kernel
theorem dX7_put_182 : decode cX7_put 182 = .ok (.aload_n 0, 1) := by decide +kernel
theorem dX7_put_183 : decode cX7_put 183 = .ok (.iload_n 1, 1) := by decide +kernel
theorem dX7_put_184 : decode cX7_put 184 = .ok (.iload 4, 2) := by decide +kernel
theorem dX7_put_186 : decode cX7_put 186 = .ok (.invokevirtual 71, 3) := by decide +kernel
theorem dX7_put_189 : decode cX7_put 189 = .ok (.iconst 0, 1) := by decide +kernel
theorem dX7_put_190 : decode cX7_put 190 = .ok (.istore_n 2, 1) := by decide +kernel
theorem dX7_put_191 : decode cX7_put 191 = .ok (.iinc 3 1, 3) := by decide +kernel
theorem dX7_put_194 : decode cX7_put 194 = .ok (.goto (-141), 3) := by decide +kernel
theorem dX7_put_197 : decode cX7_put 197 = .ok (.aload_n 0, 1) := by decide +kernel
theorem dX7_put_198 : decode cX7_put 198 = .ok (.iconst 0, 1) := by decide +kernel
theorem dX7_put_199 : decode cX7_put 199 = .ok (.putfield 123, 3) := by decide +kernel
theorem dX7_put_202 : decode cX7_put 202 = .ok (.aload_n 0, 1) := by decide +kernel
theorem dX7_put_203 : decode cX7_put 203 = .ok (.getfield 7, 3) := by decide +kernel
theorem dX7_put_206 : decode cX7_put 206 = .ok (.iconst 4, 1) := by decide +kernel
theorem dX7_put_207 : decode cX7_put 207 = .ok (.iaload, 1) := by decide +kernel
theorem dX7_put_208 : decode cX7_put 208 = .ok (.ireturn, 1) := by decide +kernel
theorem dX7_undo_0 : decode cX7_undo 0 = .ok (.aload_n 0, 1) := by decide +kernel
theorem dX7_undo_1 : decode cX7_undo 1 = .ok (.getfield 40, 3) := by decide +kernel
theorem dX7_undo_4 : decode cX7_undo 4 = .ok (.ifCond .ne 7, 3) := by decide +kernel
theorem dX7_undo_7 : decode cX7_undo 7 = .ok (.sipush (-1005), 3) := by decide +kernel
theorem dX7_undo_10 : decode cX7_undo 10 = .ok (.ireturn, 1) := by decide +kernel
theorem dX7_undo_11 : decode cX7_undo 11 = .ok (.aload_n 0, 1) := by decide +kernel
theorem dX7_undo_12 : decode cX7_undo 12 = .ok (.dup, 1) := by decide +kernel
theorem dX7_undo_13 : decode cX7_undo 13 = .ok (.getfield 40, 3) := by decide +kernel
theorem dX7_undo_16 : decode cX7_undo 16 = .ok (.iconst 1, 1) := by decide +kernel
theorem dX7_undo_17 : decode cX7_undo 17 = .ok (.isub, 1) := by decide +kernel
theorem dX7_undo_18 : decode cX7_undo 18 = .ok (.putfield 40, 3) := by decide +kernel
theorem dX7_undo_21 : decode cX7_undo 21 = .ok (.iconst 0, 1) := by decide +kernel
theorem dX7_undo_22 : decode cX7_undo 22 = .ok (.istore_n 1, 1) := by decide +kernel
theorem dX7_undo_23 : decode cX7_undo 23 = .ok (.iload_n 1, 1) := by decide +kernel
theorem dX7_undo_24 : decode cX7_undo 24 = .ok (.sipush 131, 3) := by decide +kernel
theorem dX7_undo_27 : decode cX7_undo 27 = .ok (.if_icmp .ge 30, 3) := by decide +kernel
theorem dX7_undo_30 : decode cX7_undo 30 = .ok (.aload_n 0, 1) := by decide +kernel
theorem dX7_undo_31 : decode cX7_undo 31 = .ok (.getfield 7, 3) := by decide +kernel
theorem dX7_undo_34 : decode cX7_undo 34 = .ok (.iload_n 1, 1) := by decide +kernel
theorem dX7_undo_35 : decode cX7_undo 35 = .ok (.aload_n 0, 1) := by decide +kernel
theorem dX7_undo_36 : decode cX7_undo 36 = .ok (.getfield 16, 3) := by decide +kernel
theorem dX7_undo_39 : decode cX7_undo 39 = .ok (.sipush 131, 3) := by decide +kernel
theorem dX7_undo_42 : decode cX7_undo 42 = .ok (.aload_n 0, 1) := by decide +kernel
theorem dX7_undo_43 : decode cX7_undo 43 = .ok (.getfield 40, 3) := by decide +kernel
theorem dX7_undo_46 : decode cX7_undo 46 = .ok (.imul, 1) := by decide +kernel
theorem dX7_undo_47 : decode cX7_undo 47 = .ok (.iload_n 1, 1) := by decide +kernel
theorem dX7_undo_48 : decode cX7_undo 48 = .ok (.iadd, 1) := by decide +kernel
theorem dX7_undo_49 : decode cX7_undo 49 = .ok (.iaload, 1) := by decide +kernel
theorem dX7_undo_50 : decode cX7_undo 50 = .ok (.iastore, 1) := by decide +kernel
theorem dX7_undo_51 : decode cX7_undo 51 = .ok (.iinc 1 1, 3) := by decide +kernel
theorem dX7_undo_54 : decode cX7_undo 54 = .ok (.goto (-31), 3) := by decide +kernel
theorem dX7_undo_57 : decode cX7_undo 57 = .ok (.aload_n 0, 1) := by decide +kernel
theorem dX7_undo_58 : decode cX7_undo 58 = .ok (.getfield 40, 3) := by decide +kernel
theorem dX7_undo_61 : decode cX7_undo 61 = .ok (.ireturn, 1) := by decide +kernel
set_option maxRecDepth 20000 in
theorem ggX7_save_X7_in : GoodIn wsX7_save wsX7_in := goodIn_r _ [7] (by decide +kernel) (by decide +kernel)
set_option maxRecDepth 20000 in
theorem gX7_save_X7_in : GoodIn wsX7_save (va_wsS RX7 36 yX7_in wsX7_in) := goodIn_app (goodIn_of _ (by decide +kernel)) ggX7_save_X7_in
theorem dX7_save_0 : decode cX7_save 0 = .ok (.iload_n 1, 1) := by decide +kernel
theorem dX7_save_1 : decode cX7_save 1 = .ok (.iconst 0, 1) := by decide +kernel
theorem dX7_save_2 : decode cX7_save 2 = .ok (.iconst 1, 1) := by decide +kernel
theorem dX7_save_3 : decode cX7_save 3 = .ok (.invokestatic 36, 3) := by decide +kernel
theorem dX7_save_6 : decode cX7_save 6 = .ok (.ifCond .ne 7, 3) := by decide +kernel
theorem dX7_save_9 : decode cX7_save 9 = .ok (.sipush (-1002), 3) := by decide +kernel
theorem dX7_save_12 : decode cX7_save 12 = .ok (.ireturn, 1) := by decide +kernel
theorem dX7_save_13 : decode cX7_save 13 = .ok (.iconst 0, 1) := by decide +kernel
theorem dX7_save_14 : decode cX7_save 14 = .ok (.istore_n 2, 1) := by decide +kernel
theorem dX7_save_15 : decode cX7_save 15 = .ok (.iload_n 2, 1) := by decide +kernel
theorem dX7_save_16 : decode cX7_save 16 = .ok (.sipush 131, 3) := by decide +kernel
theorem dX7_save_19 : decode cX7_save 19 = .ok (.if_icmp .ge 27, 3) := by decide +kernel
theorem dX7_save_22 : decode cX7_save 22 = .ok (.aload_n 0, 1) := by decide +kernel
theorem dX7_save_23 : decode cX7_save 23 = .ok (.getfield 19, 3) := by decide +kernel
theorem dX7_save_26 : decode cX7_save 26 = .ok (.sipush 131, 3) := by decide +kernel
theorem dX7_save_29 : decode cX7_save 29 = .ok (.iload_n 1, 1) := by decide +kernel
theorem dX7_save_30 : decode cX7_save 30 = .ok (.imul, 1) := by decide +kernel
theorem dX7_save_31 : decode cX7_save 31 = .ok (.iload_n 2, 1) := by decide +kernel
theorem dX7_save_32 : decode cX7_save 32 = .ok (.iadd, 1) := by decide +kernel
theorem dX7_save_33 : decode cX7_save 33 = .ok (.aload_n 0, 1) := by decide +kernel
theorem dX7_save_34 : decode cX7_save 34 = .ok (.getfield 7, 3) := by decide +kernel
theorem dX7_save_37 : decode cX7_save 37 = .ok (.iload_n 2, 1) := by decide +kernel
theorem dX7_save_38 : decode cX7_save 38 = .ok (.iaload, 1) := by decide +kernel
theorem dX7_save_39 : decode cX7_save 39 = .ok (.iastore, 1) := by decide +kernel
theorem dX7_save_40 : decode cX7_save 40 = .ok (.iinc 2 1, 3) := by decide +kernel
theorem dX7_save_43 : decode cX7_save 43 = .ok (.goto (-28), 3) := by decide +kernel
theorem dX7_save_46 : decode cX7_save 46 = .ok (.aload_n 0, 1) := by decide +kernel
theorem dX7_save_47 : decode cX7_save 47 = .ok (.getfield 22, 3) := by decide +kernel
theorem dX7_save_50 : decode cX7_save 50 = .ok (.iload_n 1, 1) := by decide +kernel
theorem dX7_save_51 : decode cX7_save 51 = .ok (.iconst 1, 1) := by decide +kernel
theorem dX7_save_52 : decode cX7_save 52 = .ok (.bastore, 1) := by decide +kernel
theorem dX7_save_53 : decode cX7_save 53 = .ok (.aload_n 0, 1) := by decide +kernel
theorem dX7_save_54 : decode cX7_save 54 = .ok (.getfield 7, 3) := by decide +kernel
theorem dX7_save_57 : decode cX7_save 57 = .ok (.iconst 0, 1) := by decide +kernel
theorem dX7_save_58 : decode cX7_save 58 = .ok (.iaload, 1) := by decide +kernel
theorem dX7_save_59 : decode cX7_save 59 = .ok (.ireturn, 1) := by decide +kernel
set_option maxRecDepth 20000 in
theorem ggX7_restore_X7_in : GoodIn wsX7_restore wsX7_in := goodIn_r _ [7] (by decide +kernel) (by decide +kernel)
set_option maxRecDepth 20000 in
theorem gX7_restore_X7_in : GoodIn wsX7_restore (va_wsS RX7 36 yX7_in wsX7_in) := goodIn_app (goodIn_of _ (by decide +kernel)) ggX7_restore_X7_in
set_option maxRecDepth 20000 in
theorem ggX7_restore_X7_record : GoodIn wsX7_restore wsX7_record := goodIn_r _ [11, 12, 13, 2, 14, 15, 16, 17, 18, 19, 20, 21] (by decide +kernel) (by decide +kernel)
set_option maxRecDepth 20000 in
theorem gX7_restore_X7_record : GoodIn wsX7_restore (wsV RX7 92 RX7 yX7_record wsX7_record) := goodIn_app (goodIn_of _ (by decide +kernel)) ggX7_restore_X7_record
theorem dX7_restore_0 : decode cX7_restore 0 = .ok (.iload_n 1, 1) := by decide +kernel
theorem dX7_restore_1 : decode cX7_restore 1 = .ok (.iconst 0, 1) := by decide +kernel
theorem dX7_restore_2 : decode cX7_restore 2 = .ok (.iconst 1, 1) := by decide +kernel
theorem dX7_restore_3 : decode cX7_restore 3 = .ok (.invokestatic 36, 3) := by decide +kernel
theorem dX7_restore_6 : decode cX7_restore 6 = .ok (.ifCond .ne 7, 3) := by decide +kernel
theorem dX7_restore_9 : decode cX7_restore 9 = .ok (.sipush (-1002), 3) := by decide +kernel
theorem dX7_restore_12 : decode cX7_restore 12 = .ok (.ireturn, 1) := by decide +kernel
theorem dX7_restore_13 : decode cX7_restore 13 = .ok (.aload_n 0, 1) := by decide +kernel
theorem dX7_restore_14 : decode cX7_restore 14 = .ok (.getfield 22, 3) := by decide +kernel
theorem dX7_restore_17 : decode cX7_restore 17 = .ok (.iload_n 1, 1) := by decide +kernel
theorem dX7_restore_18 : decode cX7_restore 18 = .ok (.baload, 1) := by decide +kernel
theorem dX7_restore_19 : decode cX7_restore 19 = .ok (.ifCond .ne 7, 3) := by decide +kernel
theorem dX7_restore_22 : decode cX7_restore 22 = .ok (.sipush (-1005), 3) := by decide +kernel
theorem dX7_restore_25 : decode cX7_restore 25 = .ok (.ireturn, 1) := by decide +kernel
theorem dX7_restore_26 : decode cX7_restore 26 = .ok (.aload_n 0, 1) := by decide +kernel
theorem dX7_restore_27 : decode cX7_restore 27 = .ok (.invokevirtual 92, 3) := by decide +kernel
theorem dX7_restore_30 : decode cX7_restore 30 = .ok (.iconst 0, 1) := by decide +kernel
theorem dX7_restore_31 : decode cX7_restore 31 = .ok (.istore_n 2, 1) := by decide +kernel
theorem dX7_restore_32 : decode cX7_restore 32 = .ok (.iload_n 2, 1) := by decide +kernel
theorem dX7_restore_33 : decode cX7_restore 33 = .ok (.sipush 131, 3) := by decide +kernel
theorem dX7_restore_36 : decode cX7_restore 36 = .ok (.if_icmp .ge 27, 3) := by decide +kernel
theorem dX7_restore_39 : decode cX7_restore 39 = .ok (.aload_n 0, 1) := by decide +kernel
theorem dX7_restore_40 : decode cX7_restore 40 = .ok (.getfield 7, 3) := by decide +kernel
theorem dX7_restore_43 : decode cX7_restore 43 = .ok (.iload_n 2, 1) := by decide +kernel
theorem dX7_restore_44 : decode cX7_restore 44 = .ok (.aload_n 0, 1) := by decide +kernel
theorem dX7_restore_45 : decode cX7_restore 45 = .ok (.getfield 19, 3) := by decide +kernel
theorem dX7_restore_48 : decode cX7_restore 48 = .ok (.sipush 131, 3) := by decide +kernel
theorem dX7_restore_51 : decode cX7_restore 51 = .ok (.iload_n 1, 1) := by decide +kernel
theorem dX7_restore_52 : decode cX7_restore 52 = .ok (.imul, 1) := by decide +kernel
theorem dX7_restore_53 : decode cX7_restore 53 = .ok (.iload_n 2, 1) := by decide +kernel
theorem dX7_restore_54 : decode cX7_restore 54 = .ok (.iadd, 1) := by decide +kernel
theorem dX7_restore_55 : decode cX7_restore 55 = .ok (.iaload, 1) := by decide +kernel
theorem dX7_restore_56 : decode cX7_restore 56 = .ok (.iastore, 1) := by decide +kernel
theorem dX7_restore_57 : decode cX7_restore 57 = .ok (.iinc 2 1, 3) := by decide +kernel
theorem dX7_restore_60 : decode cX7_restore 60 = .ok (.goto (-28), 3) := by decide +kernel
theorem dX7_restore_63 : decode cX7_restore 63 = .ok (.aload_n 0, 1) := by decide +kernel
theorem dX7_restore_64 : decode cX7_restore 64 = .ok (.getfield 7, 3) := by decide +kernel
theorem dX7_restore_67 : decode cX7_restore 67 = .ok (.iconst 0, 1) := by decide +kernel
theorem dX7_restore_68 : decode cX7_restore 68 = .ok (.iaload, 1) := by decide +kernel
theorem dX7_restore_69 : decode cX7_restore 69 = .ok (.ireturn, 1) := by decide +kernel
end
section
/-! regions: a row of cells at consecutive addresses, each of a fixed kind; what varies is numbers: Mem -/
abbrev Mem : Type := Nat → Nat → Int32
def sv (V : Mem) (k j : Nat) (v : Int32) : Mem := fun k' j' => if k' = k ∧ j' = j then v else V k' j'
def gv (V : Mem) (k : Nat) : Mem := fun j => V (k + j)
def pv (V : Mem) (k n : Nat) (U : Mem) : Mem := fun j => if k ≤ j ∧ j < k + n then U (j - k) else V j
abbrev kX : Type := va_G × ClassId × ClassId × ClassId
abbrev kTys (X : kX) : List (ClassId × FieldType) := [(X.2.1, .int), (X.2.2.1, .boolean), (X.2.2.2, .object "TideWords$World")]
abbrev kOK (X : kX) (U : State) : Prop := va_K X.1 vwCl (kTys X) U
/-- a field: null, the cell so many behind its own, the number of that place -/
abbrev Kf : Type := Option (Nat ⊕ Nat)
/-- a cell: an object of a class with fields; a row of numbers (0 int, 1 boolean) of a length; a row of references -/
abbrev Kd : Type := (Nat × List Kf) ⊕ ((Nat × Nat) ⊕ List (Option Nat))
def kFv (a : Nat) (f : Nat → Int32) (x : Kf) : Value := match x with
  | none => .null
  | some (.inl d) => .ref (a + d)
  | some (.inr j) => .int (f j)
def kE (X : kX) (k : Kd) (a : Nat) (f : Nat → Int32) : va_E := match k with
  | .inl o => .inr (o.1, o.2.map (kFv a f))
  | .inr (.inl r) => .inl (if r.1 = 0 then X.2.1 else X.2.2.1, r.2, .inl f)
  | .inr (.inr ds) => .inl (X.2.2.2, ds.length, .inr (.inr (.inr (.inr (fun j => (ds.getD j none).map (fun d => a + d))))))
def RP (X : kX) (L : List Kd) (b : Nat) (V : Mem) (H : Heap) : Prop := ∀ (j : Nat) (k : Kd), L[j]? = some k → va_at X.1 vwCl (b + j, kE X k (b + j) (V j)) H
theorem RP.kept {X : kX} {L : List Kd} {b : Nat} {V : Mem} {H H1 : Heap} (h : RP X L b V H) (hk : ∀ q : Nat, b ≤ q → q < b + L.length → H1[q]? = H[q]?) : RP X L b V H1 := fun j k hj => (h j k hj).kept (hk (b + j) (Nat.le_add_right _ _) (Nat.add_lt_add_left (List.getElem?_eq_some_iff.mp hj).1 _))
theorem RP.set {X : kX} {L : List Kd} {b : Nat} {V V' : Mem} {H H1 : Heap} (h : RP X L b V H) {j : Nat} {k : Kd} (hj : L[j]? = some k) (hn : va_at X.1 vwCl (b + j, kE X k (b + j) (V' j)) H1) (ho : ∀ q : Nat, q ≠ b + j → H1[q]? = H[q]?) (h2 : ∀ i, i ≠ j → V' i = V i) : RP X L b V' H1 := by
  intro i k' hi
  by_cases e : i = j
  · subst e
    rw [hj] at hi
    cases hi
    exact hn
  · rw [h2 i e]
    exact (h i k' hi).kept (ho _ (by omega))
def sbL (L : List Kd) (k : Nat) (Lc : List Kd) : Prop := ∀ j, j < Lc.length → L[k + j]? = Lc[j]?
theorem RP.sub {X : kX} {L Lc : List Kd} {b : Nat} {V : Mem} {H : Heap} (h : RP X L b V H) (k : Nat) (hs : sbL L k Lc) : RP X Lc (b + k) (gv V k) H := by
  intro j kd hj
  have hl := (List.getElem?_eq_some_iff.mp hj).1
  have h1 := h (k + j) kd ((hs j hl).trans hj)
  rw [← Nat.add_assoc] at h1
  exact h1
theorem RP.paste {X : kX} {L Lc : List Kd} {b : Nat} {V U : Mem} {H H1 : Heap} (h : RP X L b V H) (k : Nat) (hs : sbL L k Lc) (h1 : RP X Lc (b + k) U H1) (ho : ∀ q : Nat, (q < b + k ∨ b + k + Lc.length ≤ q) → H1[q]? = H[q]?) : RP X L b (pv V k Lc.length U) H1 := by
  intro j kd hj
  by_cases c : k ≤ j ∧ j < k + Lc.length
  · have e : pv V k Lc.length U j = U (j - k) := by unfold pv; rw [if_pos c]
    have hj2 : Lc[j - k]? = some kd := by
      rw [← hs (j - k) (by omega), show k + (j - k) = j by omega]
      exact hj
    have h2 := h1 (j - k) kd hj2
    rw [show b + k + (j - k) = b + j by omega] at h2
    rw [e]
    exact h2
  · have e : pv V k Lc.length U j = V j := by unfold pv; rw [if_neg c]
    rw [e]
    exact (h j kd hj).kept (ho _ (by omega))
/-! contracts -/
def cPc (X : kX) (av : List Value) (P : Heap → Prop) : Array Value → State → Prop := fun v U => v = av.toArray ∧ P U.heap ∧ kOK X U
def cQr (r : Option Value) : Array Value → State → Outcome → State → Prop := fun _ st o t => o = .returned r ∧ t.heap = st.heap
def cQw (r : Option Value) (lo hi : Nat) (P : Heap → Prop) : Array Value → State → Outcome → State → Prop := fun _ st o t => o = .returned r ∧ P t.heap ∧ t.heap.size = st.heap.size ∧ ∀ q : Nat, (q < lo ∨ hi ≤ q) → t.heap[q]? = st.heap[q]?
abbrev MR (l : Launch) (y : MethodName) (ws : List Cond) (rm : Room) (X : kX) (av : List Value) (P : Heap → Prop) (r : Option Value) : Prop := Met l y ws rm (cPc X av P) (cQr r) 0 0 (fun _ => False)
abbrev MW (l : Launch) (y : MethodName) (ws : List Cond) (rm : Room) (X : kX) (av : List Value) (P : Heap → Prop) (r : Option Value) (lo hi : Nat) (P' : Heap → Prop) : Prop := Met l y ws rm (cPc X av P) (cQw r lo hi P') 0 0 (t_fr lo hi)
theorem cPc_blind {X : kX} {av : List Value} {P : Heap → Prop} : FrameBlind (cPc X av P) := fun a U g mk h => ⟨h.1, h.2.1, va_K.moved (u := U) (U := U.calling g mk a) (Vm.Alike.refl U.vm) h.2.2⟩
abbrev Fx (p : Program) (c : Code) (s : State) (m : MethodId) (args : Array Value) (Ts : List Cond) (own : String) (cc : ByteArray) (nL : Nat) (X : kX) : Prop := CallFix p m c cc nL s args Ts own ∧ kOK X s
abbrev Hp (A : Nat → Prop) (H0 : Heap) (z : Nat) (X : kX) (L : List Kd) (b : Nat) (V : Mem) (H : Heap) (locs : List Loc) : Prop := RP X L b V H ∧ va_S A H0 H locs ∧ H.size = z
theorem mt_head {l : Launch} {y : MethodName} {ws ws' : List Cond} {rm : Room} {X : kX} {av : List Value} {P : Heap → Prop} {Qc : Array Value → State → Outcome → State → Prop} {mc ms : Nat} {free : Addr → Prop} {cc : ByteArray} {maxL : Nat} {ret : Option FieldType} {own : String}
    (hy : plainName y.cls = true) (ho : y.cls = own) (hw : ws = Cond.code y cc maxL ret :: ws') (hn : (lg_sl av).length ≤ maxL)
    (body : ∀ (p : Program) (e : Env) (s : State) (m : MethodId) (below : List Frame) (meth : Method) (c : Code) (ls : Array Slot), Fx p c s m av.toArray ws own cc maxL X → meth.sig.returnType = ret → meth.locks = false → meth.name = y.name → P s.heap → lv_has ls maxL (lv_args 0 av) →
      W p l e rm s m av.toArray below meth c s.heap [] 0 0 (MQ below Qc av.toArray s mc ms free) (F0 m 0 ls [])) : Met l y ws rm (cPc X av P) Qc mc ms free := by
  refine Met.ofW (cc := cc) (maxL := maxL) (ret := ret) hy hw ?_
  intro p e s m args below meth c s₁ B hml hv
  obtain ⟨rfl, hP, hK⟩ := hv
  have hl := lv_entry av hn
  rw [lg_entry_eq]
  subst ho
  exact body p e s m below meth c _ ⟨⟨B.exec, B.bytes, hml, findClass_of_methodNamed B.named, atoms_spec (ws := ws) B.pre⟩, hK⟩ B.returns B.notSynchronized (name_of_methodNamed B.named B.method).1 hP hl
/-! the decompiled functions' words -/
def lt {α β : Type} (a : α) (f : α → β) : β := f a
theorem lt_el {α β : Type} {a : α} {f : α → β} {y : β} (h : lt a f = y) : ∃ x, x = a ∧ f x = y := ⟨a, rfl, h⟩
theorem bd_el {α β : Type} {o : Option α} {f : α → Option β} {y : β} (h : o.bind f = some y) : ∃ x, o = some x ∧ f x = some y := Option.bind_eq_some_iff.mp h
theorem gd_el {c : Prop} [Decidable c] {α : Type} {x : Option α} {y : α} (h : (if c then none else x) = some y) : ¬ c ∧ x = some y := by
  by_cases hc : c
  · rw [if_pos hc] at h
    cases h
  · rw [if_neg hc] at h
    exact ⟨hc, h⟩
def fuel : Nat := 1000000
def it {σ ε : Type} (body : σ → Option (σ ⊕ ε)) : Nat → σ → Option ε
  | 0, _ => none
  | n + 1, s => (body s).bind (fun r => match r with
    | .inl s' => it body n s'
    | .inr e => some e)
theorem it_walk {σ ε : Type} {body : σ → Option (σ ⊕ ε)} (Wh : σ → Prop) (We : ε → Prop) (hl : ∀ s s', body s = some (.inl s') → Wh s' → Wh s) (hr : ∀ s e, body s = some (.inr e) → We e → Wh s) : ∀ (n : Nat) (s : σ) (e : ε), it body n s = some e → We e → Wh s
  | 0, s, e, h, _ => by cases h
  | n + 1, s, e, h, he => by
    obtain ⟨r, h1, h2⟩ := bd_el h
    cases r with
    | inl s' => exact hl s s' h1 (it_walk Wh We hl hr n s' e h2 he)
    | inr e' =>
      cases h2
      exact hr s e h1 he
theorem it_mono {σ ε : Type} {body : σ → Option (σ ⊕ ε)} : ∀ (n m : Nat) (s : σ) (e : ε), n ≤ m → it body n s = some e → it body m s = some e
  | 0, _, _, _, _, h => by cases h
  | n + 1, 0, _, _, hm, _ => by omega
  | n + 1, m + 1, s, e, hm, h => by
    obtain ⟨r, h1, h2⟩ := bd_el h
    show (body s).bind _ = _
    rw [h1]
    cases r with
    | inl s' => exact it_mono n m s' e (by omega) h2
    | inr e' => exact h2
end
section
section KB
variable {p : Program} {l : Launch} {e : Env} {R : Room} {s : State} {m : MethodId} {args : Array Value} {below : List Frame} {meth : Method} {c : Code} {H : Heap} {locs : List Loc} {cells slots : Nat} {Q : State → Prop}
variable {cc : ByteArray} {pc nL : Nat} {ls : Array Slot} {rest : List Value} {Ts : List Cond} {own : String} {X : kX} {L : List Kd} {b : Nat} {V : Mem} {A : Nat → Prop} {H0 : Heap} {z : Nat}
theorem rg_at (hR : RP X L b V H) (j : Nat) {k : Kd} (hj : L[j]? = some k) : va_P X.1 vwCl [(b + j, kE X k (b + j) (V j))] H := by
  intro i q hi
  cases i with
  | zero =>
    rw [List.getElem?_cons_zero] at hi
    cases hi
    exact hR j k hj
  | succ i =>
    rw [List.getElem?_cons_succ] at hi
    cases hi
theorem rg_getr (F : Fx p c s m args Ts own cc nL X) (hR : RP X L b V H) (j : Nat) {ci : Nat} {fl : List Kf} (hj : L[j]? = some (.inl (ci, fl))) {C : String} {T : u_T} {N : Nat} (hc : vwCl[ci]? = some (C, T, N)) (hin : ∀ w ∈ u_ws C T N, w ∈ Ts) (k : Nat) {d n : Nat} (hv : fl[k]? = some (some (.inl d))) (hd : j + d = n) {index : Nat} (hk : k < N) (hown : (T k).1 = C) (hlink : Cond.fieldLink own index C (T k).2.1 (T k).2.2.1 ∈ Ts) {a : Nat} (ha : a = b + j) (hdg : decode cc pc = .ok (.getfield index, 3))
    (kk : W p l e R s m args below meth c H locs cells slots Q (F0 m (pc + 3) ls (.ref (b + n) :: rest))) : W p l e R s m args below meth c H locs cells slots Q (F0 m pc ls (.ref a :: rest)) := by
  subst ha
  refine va_get (tys := kTys X) (ref := C) (a := b + j) (fs := fl.map (kFv (b + j) (V j))) (v := .ref (b + n)) F.1.1 F.1.2.1 F.1.2.2.2.2 hin F.1.2.2.2.1 F.2 (rg_at hR j hj) 0 rfl hc k hk (F.1.2.2.2.2 _ hlink) (fun x h => by rw [hown] at h; exact h) ?_ hdg kk
  rw [List.getElem?_map, hv]
  show some (Value.ref (b + j + d)) = _
  rw [Nat.add_assoc, hd]
theorem rg_geti (F : Fx p c s m args Ts own cc nL X) (hR : RP X L b V H) (j : Nat) {ci : Nat} {fl : List Kf} (hj : L[j]? = some (.inl (ci, fl))) {C : String} {T : u_T} {N : Nat} (hc : vwCl[ci]? = some (C, T, N)) (hin : ∀ w ∈ u_ws C T N, w ∈ Ts) (k : Nat) {i : Nat} (hv : fl[k]? = some (some (.inr i))) {index : Nat} (hk : k < N) (hown : (T k).1 = C) (hlink : Cond.fieldLink own index C (T k).2.1 (T k).2.2.1 ∈ Ts) {a : Nat} (ha : a = b + j) (hdg : decode cc pc = .ok (.getfield index, 3))
    (kk : W p l e R s m args below meth c H locs cells slots Q (F0 m (pc + 3) ls (.int (V j i) :: rest))) : W p l e R s m args below meth c H locs cells slots Q (F0 m pc ls (.ref a :: rest)) := by
  subst ha
  refine va_get (tys := kTys X) (ref := C) (a := b + j) (fs := fl.map (kFv (b + j) (V j))) (v := .int (V j i)) F.1.1 F.1.2.1 F.1.2.2.2.2 hin F.1.2.2.2.1 F.2 (rg_at hR j hj) 0 rfl hc k hk (F.1.2.2.2.2 _ hlink) (fun x h => by rw [hown] at h; exact h) ?_ hdg kk
  rw [List.getElem?_map, hv]
  rfl
theorem rg_put (F : Fx p c s m args Ts own cc nL X) (hH : Hp A H0 z X L b V H locs) (hA : ∀ q : Nat, b ≤ q → q < b + L.length → A q) (j : Nat) {ci : Nat} {fl : List Kf} (hj : L[j]? = some (.inl (ci, fl))) {C : String} {T : u_T} {N : Nat} (hc : vwCl[ci]? = some (C, T, N)) (hin : ∀ w ∈ u_ws C T N, w ∈ Ts) (ty0 : Nat → FieldType) (hty : ∀ k, k < N → parseFieldDescriptor (T k).2.2.1 = some (ty0 k)) (hnm : ∀ a, a < N → ∀ b, b < N → a ≠ b → (T a).2.1 ≠ (T b).2.1)
    (k : Nat) {i : Nat} (hv : fl[k]? = some (some (.inr i))) (hu : ∀ k2, k2 < N → k2 ≠ k → fl[k2]? ≠ some (some (.inr i))) {index : Nat} (hk : k < N) (hown : (T k).1 = C) (hfin : (T k).2.2.2 = false) (hd : parseFieldDescriptor (T k).2.2.1 = some .int) (hlink : Cond.fieldLink own index C (T k).2.1 (T k).2.2.1 ∈ Ts) {a : Nat} (ha : a = b + j) {x : Int32} (hdg : decode cc pc = .ok (.putfield index, 3))
    (kk : ∀ (H1 : Heap) (locs1 : List Loc), Hp A H0 z X L b (sv V j i x) H1 locs1 → W p l e R s m args below meth c H1 locs1 cells slots Q (F0 m (pc + 3) ls rest)) : W p l e R s m args below meth c H locs cells slots Q (F0 m pc ls (.int x :: .ref a :: rest)) := by
  subst ha
  obtain ⟨hR, hS0, hz⟩ := hH
  have hts := F.1.2.2.2.2
  have hK := F.2
  have hap := va_apart (own := own) hts hin ty0 hty hnm hK hc
  obtain ⟨r, h1, cell, q1, q2, q3, q4⟩ := hR j _ hj
  have hr : r = (C, T, N) := Option.some.inj (h1.symm.trans hc)
  subst hr
  obtain ⟨hSl, hfc, kC, hkC, hkind⟩ := hK.1 ci _ hc
  obtain ⟨cf, kf, fi, f, hi, hsl⟩ := hSl k hk
  have hlay := hts _ (hin _ (u_in_lay hk))
  unfold u_lay at hlay
  rw [if_neg (by rw [hfin]; decide)] at hlay
  have hst := (u_facts hfc hkC (u_lays hts hin hk) hi).1
  have h6 := u_store (v := .int x) hfc hkC hkind hlay hi hd rfl rfl
  have hjl := (List.getElem?_eq_some_iff.mp hj).1
  refine W.putK F.1.1 F.1.2.1 (f := f) (v := .int x) ⟨F.1.2.2.2.1, hts _ hlink, ⟨_, _, _, by rw [hown] at hi; exact hi⟩, hst⟩ (by rw [q2]; exact h6) q1 q3 (by rw [hsl]; exact k2_hasslot (q4 k hk)) rfl rfl hdg fun H' e1 e2 e3 => ?_
  rw [hsl] at e1 ⊢
  refine kk H' _ ⟨hR.set (V' := sv V j i x) hj ⟨_, hc, t_OB.to (V := updV (vp_V (fl.map (kFv (b + j) (V j)))) k (.int x)) ⟨_, e1, q2, q3, t_set q4 hap hk (.int x)⟩ ?_⟩ e3 ?_, hS0.put e2 e3 (hA _ (Nat.le_add_right _ _) (Nat.add_lt_add_left hjl _)), e2.trans hz⟩
  · intro j' hj'
    by_cases hjk : j' = k
    · subst hjk
      simp [updV, vp_V, List.getElem?_map, hv, kFv, sv]
    · have hne := hu j' hj' hjk
      simp only [updV, if_neg hjk, vp_V, List.getD_eq_getElem?_getD, List.getElem?_map]
      cases hf : fl[j']? with
      | none => rfl
      | some x9 =>
        match x9, hf with
        | none, _ => rfl
        | some (.inl d), _ => rfl
        | some (.inr i2), hf =>
          have : i2 ≠ i := fun h => hne (by rw [hf, h])
          simp [kFv, sv, this]
  · intro i' hi'
    funext q
    simp [sv, hi']
theorem rg_iald (F : Fx p c s m args Ts own cc nL X) (hR : RP X L b V H) (j : Nat) {n : Nat} (hj : L[j]? = some (.inr (.inl (0, n)))) {i : Int32} (hin : ¬ (i < 0 ∨ n ≤ i.toNatClampNeg)) {a : Nat} (ha : a = b + j) (hdg : decode cc pc = .ok (.iaload, 1))
    (kk : W p l e R s m args below meth c H locs cells slots Q (F0 m (pc + 1) ls (.int (V j i.toNatClampNeg) :: rest))) : W p l e R s m args below meth c H locs cells slots Q (F0 m pc ls (.int i :: .ref a :: rest)) := by
  subst ha
  exact va_iald (cA := X.2.1) (n := n) (f := V j) F.1.1 F.1.2.1 F.2 (rg_at hR j hj) 0 0 rfl rfl hin hdg kk
theorem rg_zald (F : Fx p c s m args Ts own cc nL X) (hR : RP X L b V H) (j : Nat) {n : Nat} (hj : L[j]? = some (.inr (.inl (1, n)))) {i : Int32} (hin : ¬ (i < 0 ∨ n ≤ i.toNatClampNeg)) {a : Nat} (ha : a = b + j) (hdg : decode cc pc = .ok (.baload, 1))
    (kk : W p l e R s m args below meth c H locs cells slots Q (F0 m (pc + 1) ls (.int (V j i.toNatClampNeg) :: rest))) : W p l e R s m args below meth c H locs cells slots Q (F0 m pc ls (.int i :: .ref a :: rest)) := by
  subst ha
  exact va_zald (cA := X.2.2.1) (n := n) (f := V j) F.1.1 F.1.2.1 F.2 (rg_at hR j hj) 0 1 rfl rfl hin hdg kk
theorem rg_alen (F : Fx p c s m args Ts own cc nL X) (hR : RP X L b V H) (j : Nat) {n : Nat} (hj : L[j]? = some (.inr (.inl (0, n)))) {a : Nat} (ha : a = b + j) (hdg : decode cc pc = .ok (.arraylength, 1))
    (kk : W p l e R s m args below meth c H locs cells slots Q (F0 m (pc + 1) ls (.int (nI n) :: rest))) : W p l e R s m args below meth c H locs cells slots Q (F0 m pc ls (.ref a :: rest)) := by
  subst ha
  exact va_alen (cA := X.2.1) (x := (n, .inl (V j))) (ty := .int) (v := nI n) F.1.1 F.1.2.1 F.2 (rg_at hR j hj) 0 0 rfl rfl rfl hdg kk
theorem rg_alenq (F : Fx p c s m args Ts own cc nL X) (hR : RP X L b V H) (j : Nat) {ds : List (Option Nat)} (hj : L[j]? = some (.inr (.inr ds))) {a : Nat} (ha : a = b + j) (hdg : decode cc pc = .ok (.arraylength, 1))
    (kk : W p l e R s m args below meth c H locs cells slots Q (F0 m (pc + 1) ls (.int (nI ds.length) :: rest))) : W p l e R s m args below meth c H locs cells slots Q (F0 m pc ls (.ref a :: rest)) := by
  subst ha
  exact va_alen (cA := X.2.2.2) (x := (ds.length, .inr (.inr (.inr (.inr (fun q => (ds.getD q none).map (fun d => b + j + d))))))) (ty := .object "TideWords$World") (v := nI ds.length) F.1.1 F.1.2.1 F.2 (rg_at hR j hj) 0 2 rfl rfl rfl hdg kk
theorem rg_aald (F : Fx p c s m args Ts own cc nL X) (hR : RP X L b V H) (j : Nat) {ds : List (Option Nat)} (hj : L[j]? = some (.inr (.inr ds))) {i : Int32} (hin : ¬ (i < 0 ∨ ds.length ≤ i.toNatClampNeg)) {a : Nat} (ha : a = b + j) {w : Nat} (hw : (ds.getD i.toNatClampNeg none).map (fun d => b + j + d) = some w) (hdg : decode cc pc = .ok (.aaload, 1))
    (kk : W p l e R s m args below meth c H locs cells slots Q (F0 m (pc + 1) ls (.ref w :: rest))) : W p l e R s m args below meth c H locs cells slots Q (F0 m pc ls (.int i :: .ref a :: rest)) := by
  subst ha
  refine va_aldq (cA := X.2.2.2) (n := ds.length) (f := fun q => (ds.getD q none).map (fun d => b + j + d)) F.1.1 F.1.2.1 F.2 (rg_at hR j hj) 0 2 rfl rfl hin hdg ?_
  rw [hw]
  exact kk
theorem rg_iast (F : Fx p c s m args Ts own cc nL X) (hH : Hp A H0 z X L b V H locs) (hA : ∀ q : Nat, b ≤ q → q < b + L.length → A q) (j : Nat) {n : Nat} (hj : L[j]? = some (.inr (.inl (0, n)))) {i x : Int32} (hin : ¬ (i < 0 ∨ n ≤ i.toNatClampNeg)) {a : Nat} (ha : a = b + j) (hdg : decode cc pc = .ok (.iastore, 1))
    (kk : ∀ (H1 : Heap) (locs1 : List Loc), Hp A H0 z X L b (sv V j i.toNatClampNeg x) H1 locs1 → W p l e R s m args below meth c H1 locs1 cells slots Q (F0 m (pc + 1) ls rest)) : W p l e R s m args below meth c H locs cells slots Q (F0 m pc ls (.int x :: .int i :: .ref a :: rest)) := by
  subst ha
  obtain ⟨hR, hS, hz⟩ := hH
  have hjl := (List.getElem?_eq_some_iff.mp hj).1
  have hc : H[b + j]? = some (arrV X.2.1 n (fun q => .int (V j q))) := hR j _ hj
  refine W.iast F.1.1 F.1.2.1 hc ((F.2.2 0 _ rfl).1 n (fun q => .int (V j q))) (fun q => by cases q) (by rw [arrV_size]; exact hin) rfl rfl hdg fun H1 e1 z1 oq => ?_
  refine kk H1 _ ⟨hR.set (V' := sv V j i.toNatClampNeg x) hj ?_ oq ?_, hS.put z1 oq (hA _ (Nat.le_add_right _ _) (Nat.add_lt_add_left hjl _)), z1.trans hz⟩
  · show H1[b + j]? = some (arrV X.2.1 n (fun q => .int (sv V j i.toNatClampNeg x j q)))
    rw [e1, arrV_store]
    congr 2
    funext q
    by_cases hq : q = i.toNatClampNeg
    · subst hq
      simp [updV, sv]
    · simp [updV, sv, hq]
  · intro i' hi'
    funext q
    simp [sv, hi']
theorem rg_zast (F : Fx p c s m args Ts own cc nL X) (hH : Hp A H0 z X L b V H locs) (hA : ∀ q : Nat, b ≤ q → q < b + L.length → A q) (j : Nat) {n : Nat} (hj : L[j]? = some (.inr (.inl (1, n)))) {i x : Int32} (hx : narrow .boolean (.int x) = .int x) (hin : ¬ (i < 0 ∨ n ≤ i.toNatClampNeg)) {a : Nat} (ha : a = b + j) (hdg : decode cc pc = .ok (.bastore, 1))
    (kk : ∀ (H1 : Heap) (locs1 : List Loc), Hp A H0 z X L b (sv V j i.toNatClampNeg x) H1 locs1 → W p l e R s m args below meth c H1 locs1 cells slots Q (F0 m (pc + 1) ls rest)) : W p l e R s m args below meth c H locs cells slots Q (F0 m pc ls (.int x :: .int i :: .ref a :: rest)) := by
  subst ha
  obtain ⟨hR, hS, hz⟩ := hH
  have hjl := (List.getElem?_eq_some_iff.mp hj).1
  have hc : H[b + j]? = some (arrV X.2.2.1 n (fun q => .int (V j q))) := hR j _ hj
  refine W.zast F.1.1 F.1.2.1 hc ((F.2.2 1 _ rfl).1 n (fun q => .int (V j q))) (fun q => by cases q) (by rw [arrV_size]; exact hin) rfl rfl hdg fun H1 e1 z1 oq => ?_
  rw [hx] at e1
  refine kk H1 _ ⟨hR.set (V' := sv V j i.toNatClampNeg x) hj ?_ oq ?_, hS.put z1 oq (hA _ (Nat.le_add_right _ _) (Nat.add_lt_add_left hjl _)), z1.trans hz⟩
  · show H1[b + j]? = some (arrV X.2.2.1 n (fun q => .int (sv V j i.toNatClampNeg x j q)))
    rw [e1, arrV_store]
    congr 2
    funext q
    by_cases hq : q = i.toNatClampNeg
    · subst hq
      simp [updV, sv]
    · simp [updV, sv, hq]
  · intro i' hi'
    funext q
    simp [sv, hi']
theorem rp_recv (F : Fx p c s m args Ts own cc nL X) (hR : RP X L b V H) (j : Nat) {ci : Nat} {fl : List Kf} (hj : L[j]? = some (.inl (ci, fl))) {C : String} {T : u_T} {N : Nat} (hc : vwCl[ci]? = some (C, T, N)) {a : Nat} (ha : a = b + j) : ∃ cell : Cell, H[a]? = some cell ∧ cell.vm.isStatics = false ∧ s.vm.findClass C = some cell.cls := by
  subst ha
  exact va_recv (fs := fl.map (kFv (b + j) (V j))) F.2 (rg_at hR j hj) (q0 := 0) hc rfl
/-! calls -/
variable {y : MethodName} {bytes : ByteArray} {maxL n index : Nat} {ret : Option FieldType} {ws : List Cond} {rm : Room} {P : Heap → Prop} {C : String} {a : Nat} {As st : List Value}
theorem rg_callRV {r : Value} (F : Fx p c s m args Ts own cc nL X) (hM : MR l y ws rm X (.ref a :: As) P (some r)) (cw : CallW R s args own C index y bytes maxL ret ws rm 0 0 n) (hrec : ∃ cell : Cell, H[a]? = some cell ∧ cell.vm.isStatics = false ∧ s.vm.findClass C = some cell.cls) (hP : P H) (hn : As.length = n) (hsz : ls.size = nL) (hw : (rest.map fun v => v.category).sum ≤ 8) (hdg : decode cc pc = .ok (.invokevirtual index, 3)) (hf : cells ≤ R.cells ∧ slots ≤ R.slots) (hst : st = As.reverse ++ .ref a :: rest)
    (kk : W p l e R s m args below meth c H locs cells slots Q (F0 m (pc + 3) ls (r :: rest))) : W p l e R s m args below meth c H locs cells slots Q (F0 m pc ls st) := by
  subst hst
  have hr := va_runV (g := F0 m pc ls (As.reverse ++ .ref a :: rest)) (locs := locs) (cells := cells) (slots := slots) (rest := rest) F.1 hM cw ⟨cPc_blind, hrec, fun U hU hW => ⟨rfl, by rw [hU]; exact hP, va_K.moved hW.alike F.2⟩⟩ rfl hn hsz rfl (lv_room hw) hdg hf
  intro T hT XX
  obtain ⟨v, st₀, t, T', L', h0, X', hL, e1, e2, ⟨hv, hh⟩, stp⟩ := hr T hT XX
  have hL' : L' = [] := by
    cases L' with
    | nil => rfl
    | cons q _ => exact (hL q List.mem_cons_self).elim
  subst hL'
  cases hv
  rw [List.append_nil] at X'
  obtain ⟨t2, a1, b1⟩ := kk T' (e1.trans (hh.trans h0)) X'
  exact ⟨t2, stp t2 a1, b1⟩
theorem rg_callRS {r : Value} (F : Fx p c s m args Ts own cc nL X) (hM : MR l y ws rm X As P (some r)) (cw : CallB R s args own index y bytes maxL ret ws rm 0 0 n ∧ (Cond.static y).before args s = true) (hP : P H) (hn : As.length = n) (hsz : ls.size = nL) (hw : (rest.map fun v => v.category).sum ≤ 8) (hdg : decode cc pc = .ok (.invokestatic index, 3)) (hf : cells ≤ R.cells ∧ slots ≤ R.slots) (hst : st = As.reverse ++ rest)
    (kk : W p l e R s m args below meth c H locs cells slots Q (F0 m (pc + 3) ls (r :: rest))) : W p l e R s m args below meth c H locs cells slots Q (F0 m pc ls st) := by
  subst hst
  have hr := va_runS (g := F0 m pc ls (As.reverse ++ rest)) (locs := locs) (cells := cells) (slots := slots) (rest := rest) F.1 hM cw ⟨cPc_blind, fun U hU hW => ⟨rfl, by rw [hU]; exact hP, va_K.moved hW.alike F.2⟩⟩ rfl hn hsz rfl (lv_room hw) hdg hf
  intro T hT XX
  obtain ⟨v, st₀, t, T', L', h0, X', hL, e1, e2, ⟨hv, hh⟩, stp⟩ := hr T hT XX
  have hL' : L' = [] := by
    cases L' with
    | nil => rfl
    | cons q _ => exact (hL q List.mem_cons_self).elim
  subst hL'
  cases hv
  rw [List.append_nil] at X'
  obtain ⟨t2, a1, b1⟩ := kk T' (e1.trans (hh.trans h0)) X'
  exact ⟨t2, stp t2 a1, b1⟩
theorem rg_callWV {r : Option Value} {Lc : List Kd} {U V2 : Mem} (F : Fx p c s m args Ts own cc nL X) (hH : Hp A H0 z X L b V H locs) (hA : ∀ q : Nat, b ≤ q → q < b + L.length → A q) (k : Nat) (hsub : sbL L k Lc) (hM : MW l y ws rm X (.ref a :: As) P r (b + k) (b + k + Lc.length) (RP X Lc (b + k) U)) (cw : CallW R s args own C index y bytes maxL ret ws rm 0 0 n) (hrec : ∃ cell : Cell, H[a]? = some cell ∧ cell.vm.isStatics = false ∧ s.vm.findClass C = some cell.cls) (hP : P H) (hn : As.length = n) (hsz : ls.size = nL) (hw : (rest.map fun v => v.category).sum ≤ 8) (hdg : decode cc pc = .ok (.invokevirtual index, 3)) (hf : cells ≤ R.cells ∧ slots ≤ R.slots) (hst : st = As.reverse ++ .ref a :: rest) (hV2 : pv V k Lc.length U = V2)
    (kk : ∀ (H1 : Heap) (locs1 : List Loc), Hp A H0 z X L b V2 H1 locs1 → (∀ q : Nat, (q < b + k ∨ b + k + Lc.length ≤ q) → H1[q]? = H[q]?) → W p l e R s m args below meth c H1 locs1 cells slots Q (F0 m (pc + 3) ls (r.toList ++ rest))) : W p l e R s m args below meth c H locs cells slots Q (F0 m pc ls st) := by
  subst hst
  subst hV2
  obtain ⟨hR, hS, hz⟩ := hH
  have hr := va_runV (g := F0 m pc ls (As.reverse ++ .ref a :: rest)) (locs := locs) (cells := cells) (slots := slots) (rest := rest) F.1 hM cw ⟨cPc_blind, hrec, fun U hU hW => ⟨rfl, by rw [hU]; exact hP, va_K.moved hW.alike F.2⟩⟩ rfl hn hsz rfl (lv_room hw) hdg hf
  have hA' : ∀ q : Nat, t_fr (b + k) (b + k + Lc.length) q → A q := by
    intro q hq
    obtain ⟨h1, h2⟩ := hq
    have hj : q - (b + k) < Lc.length := by omega
    have h3 := hsub _ hj
    rw [List.getElem?_eq_getElem hj] at h3
    have h4 := (List.getElem?_eq_some_iff.mp h3).1
    exact hA q (by omega) (by omega)
  intro T hT XX
  obtain ⟨v, st₀, t, T', L', h0, X', hL, e1, e2, ⟨hv, hP', hz', hk⟩, stp⟩ := hr T hT XX
  cases hv
  rw [h0] at hz' hk
  obtain ⟨t2, a1, b1⟩ := kk T'.heap (locs ++ L') ⟨by rw [e1]; exact hR.paste k hsub hP' hk, ⟨by rw [e1, hz']; exact hS.1, fun q h1 h2 => by
      rw [e1, hk q (by
        rcases Nat.lt_or_ge q (b + k) with h | h
        · exact Or.inl h
        · exact Or.inr (Nat.le_of_not_lt fun h9 => h2 (hA' q ⟨h, h9⟩)))]
      exact hS.2.1 q h1 h2, fun q hq => by
      rcases List.mem_append.mp hq with h | h
      · exact hS.2.2 q h
      · exact hA' _ (hL q h)⟩, by rw [e1, hz', hz]⟩ (fun q hq => by rw [e1]; exact hk q hq) T' rfl X'
  exact ⟨t2, stp t2 a1, b1⟩
theorem mw_post {t : State} {r : Option Value} {n : Nat} {aa : Array Value} (hH : Hp (t_fr b (b + n)) s.heap s.heap.size X L b V H locs) (ht : t.heap = H) : cQw r b (b + n) (RP X L b V) aa s (.returned r) t := by
  obtain ⟨hR, hS, hz⟩ := hH
  refine ⟨rfl, by rw [ht]; exact hR, by rw [ht]; exact hz, fun q hq => ?_⟩
  rw [ht]
  rcases Nat.lt_or_ge q s.heap.size with h | h
  · exact hS.2.1 q h (fun h9 => by
      obtain ⟨h1, h2⟩ := h9
      omega)
  · rw [Array.getElem?_eq_none (by rw [hz]; exact h), Array.getElem?_eq_none h]
end KB
end
