/-! ===== BEGIN words of one list among another's, by their places ===== -/
theorem goodIn_r {big : List Cond} (ws : List Cond) (ps : List Nat) (hp : ws = ps.filterMap (fun i => big[i]?)) (h : ws.all goodWord = true) : GoodIn big ws := by
  intro w hw
  have h1 := List.all_eq_true.mp h w hw
  rw [hp] at hw
  obtain ⟨i, -, hi⟩ := List.mem_filterMap.mp hw
  have hm : w ∈ big := by first | exact List.mem_of_getElem? hi | exact List.getElem?_mem hi
  exact ⟨hm, good_of_word h1⟩
theorem goodIn_app {big a b : List Cond} (ha : GoodIn big a) (hb : GoodIn big b) : GoodIn big (a ++ b) := fun w h => (List.mem_append.mp h).elim (ha w) (hb w)
theorem goodIn_ca {big a b : List Cond} {c : Cond} (ha : GoodIn big (c :: a)) (hb : GoodIn big b) : GoodIn big (c :: (a ++ b)) := fun w h => (List.mem_cons.mp h).elim (fun e => ha w (List.mem_cons.mpr (Or.inl e))) (fun h => (List.mem_append.mp h).elim (fun h => ha w (List.mem_cons.mpr (Or.inr h))) (hb w))
theorem goodIn_sub {big ws : List Cond} (hm : ∀ w ∈ ws, w ∈ big) (h : ws.all goodWord = true) : GoodIn big ws := fun w hw => ⟨hm w hw, good_of_word (List.all_eq_true.mp h w hw)⟩
/-! ===== END ===== -/

/-! ===== BEGIN printed: names, fields, word lists, decode rows ===== -/
def RX0 : String := "BellTheCat$House"
def TX0 : u_T := fun k => match k with
  | 0 => ("BellTheCat$House", "kinds", "[I", true)
  | 1 => ("BellTheCat$House", "speeds", "[I", true)
  | 2 => ("BellTheCat$House", "fears", "[I", true)
  | 3 => ("BellTheCat$House", "tickets", "[I", true)
  | 4 => ("BellTheCat$House", "noises", "[I", true)
  | 5 => ("BellTheCat$House", "prices", "[I", true)
  | 6 => ("BellTheCat$House", "skills", "[I", true)
  | 7 => ("BellTheCat$House", "words", "[I", true)
  | 8 => ("BellTheCat$House", "miceCount", "I", false)
  | 9 => ("BellTheCat$House", "stepCount", "I", false)
  | 10 => ("BellTheCat$House", "ratCount", "I", false)
  | _ => ("BellTheCat$House", "gain", "I", false)
def tyX0 : Nat → FieldType := fun k => match k with
  | 0 => .array .int
  | 1 => .array .int
  | 2 => .array .int
  | 3 => .array .int
  | 4 => .array .int
  | 5 => .array .int
  | 6 => .array .int
  | 7 => .array .int
  | 8 => .int
  | 9 => .int
  | 10 => .int
  | _ => .int
abbrev wsX00 : List Cond := u_ws RX0 TX0 12
theorem nmX0 : ∀ a, a < 12 → ∀ b, b < 12 → a ≠ b → (TX0 a).2.1 ≠ (TX0 b).2.1 := by decide +kernel
theorem tyX0_ok : ∀ k, k < 12 → parseFieldDescriptor (TX0 k).2.2.1 = some (tyX0 k) := by decide +kernel
abbrev cX0_init : ByteArray := prog_2_method_1_code
def yX0_init : MethodName := ⟨RX0, "<init>", "()V"⟩
abbrev cX0_copyFrom : ByteArray := prog_2_method_2_code
def yX0_copyFrom : MethodName := ⟨RX0, "copyFrom", "(LBellTheCat$House;)V"⟩
abbrev cX0_hasMouse : ByteArray := prog_2_method_3_code
def yX0_hasMouse : MethodName := ⟨RX0, "hasMouse", "(I)Z"⟩
abbrev cX0_hasStep : ByteArray := prog_2_method_4_code
def yX0_hasStep : MethodName := ⟨RX0, "hasStep", "(I)Z"⟩
abbrev cX0_hasRat : ByteArray := prog_2_method_5_code
def yX0_hasRat : MethodName := ⟨RX0, "hasRat", "(I)Z"⟩
abbrev cX0_takes : ByteArray := prog_2_method_6_code
def yX0_takes : MethodName := ⟨RX0, "takes", "(I)Z"⟩
abbrev cX0_apply : ByteArray := prog_2_method_7_code
def yX0_apply : MethodName := ⟨RX0, "apply", "(IIII)V"⟩
abbrev cX0_addMouse : ByteArray := prog_2_method_8_code
def yX0_addMouse : MethodName := ⟨RX0, "addMouse", "(IIII)V"⟩
abbrev cX0_addRat : ByteArray := prog_2_method_9_code
def yX0_addRat : MethodName := ⟨RX0, "addRat", "(III)V"⟩
abbrev cX0_empty : ByteArray := prog_2_method_10_code
def yX0_empty : MethodName := ⟨RX0, "empty", "()V"⟩
abbrev cX0_fearOf : ByteArray := prog_2_method_11_code
def yX0_fearOf : MethodName := ⟨RX0, "fearOf", "(I)I"⟩
abbrev cX0_worthOf : ByteArray := prog_2_method_12_code
def yX0_worthOf : MethodName := ⟨RX0, "worthOf", "(I)I"⟩
abbrev cX0_dangerAt : ByteArray := prog_2_method_13_code
def yX0_dangerAt : MethodName := ⟨RX0, "dangerAt", "(II)I"⟩
abbrev cX0_aloneAbove : ByteArray := prog_2_method_14_code
def yX0_aloneAbove : MethodName := ⟨RX0, "aloneAbove", "(I)J"⟩
abbrev cX0_dreadAbove : ByteArray := prog_2_method_15_code
def yX0_dreadAbove : MethodName := ⟨RX0, "dreadAbove", "(I)J"⟩
def RX1 : String := "BellTheCat$Offers"
def TX1 : u_T := fun k => match k with
  | 0 => ("BellTheCat$Offers", "living", "I", false)
  | 1 => ("BellTheCat$Offers", "glad", "I", false)
  | 2 => ("BellTheCat$Offers", "loath", "I", false)
  | 3 => ("BellTheCat$Offers", "gladAlone", "I", false)
  | _ => ("BellTheCat$Offers", "tempted", "I", false)
def tyX1 : Nat → FieldType := fun k => match k with
  | 0 => .int
  | 1 => .int
  | 2 => .int
  | 3 => .int
  | _ => .int
abbrev wsX10 : List Cond := u_ws RX1 TX1 5
theorem nmX1 : ∀ a, a < 5 → ∀ b, b < 5 → a ≠ b → (TX1 a).2.1 ≠ (TX1 b).2.1 := by decide +kernel
theorem tyX1_ok : ∀ k, k < 5 → parseFieldDescriptor (TX1 k).2.2.1 = some (tyX1 k) := by decide +kernel
abbrev cX1_init : ByteArray := prog_3_method_1_code
def yX1_init : MethodName := ⟨RX1, "<init>", "()V"⟩
abbrev cX1_weigh : ByteArray := prog_3_method_2_code
def yX1_weigh : MethodName := ⟨RX1, "weigh", "(LBellTheCat$House;II)V"⟩
abbrev cX1_isAtRest : ByteArray := prog_3_method_3_code
def yX1_isAtRest : MethodName := ⟨RX1, "isAtRest", "(I)Z"⟩
abbrev cX1_howManyRest : ByteArray := prog_3_method_4_code
def yX1_howManyRest : MethodName := ⟨RX1, "howManyRest", "()I"⟩
abbrev cX1_leastAtRest : ByteArray := prog_3_method_5_code
def yX1_leastAtRest : MethodName := ⟨RX1, "leastAtRest", "()I"⟩
def RX2 : String := "BellTheCat$Search"
def TX2 : u_T := fun k => match k with
  | 0 => ("BellTheCat$Search", "row", "[I", true)
  | 1 => ("BellTheCat$Search", "bestRow", "[I", true)
  | 2 => ("BellTheCat$Search", "bestAbove", "J", false)
  | _ => ("BellTheCat$Search", "mayRepeat", "Z", false)
def tyX2 : Nat → FieldType := fun k => match k with
  | 0 => .array .int
  | 1 => .array .int
  | 2 => .long
  | _ => .boolean
abbrev wsX20 : List Cond := u_ws RX2 TX2 4
theorem nmX2 : ∀ a, a < 4 → ∀ b, b < 4 → a ≠ b → (TX2 a).2.1 ≠ (TX2 b).2.1 := by decide +kernel
theorem tyX2_ok : ∀ k, k < 4 → parseFieldDescriptor (TX2 k).2.2.1 = some (tyX2 k) := by decide +kernel
abbrev cX2_init : ByteArray := prog_4_method_1_code
def yX2_init : MethodName := ⟨RX2, "<init>", "()V"⟩
abbrev cX2_run : ByteArray := prog_4_method_2_code
def yX2_run : MethodName := ⟨RX2, "run", "(LBellTheCat$House;I)V"⟩
abbrev cX2_tryFrom : ByteArray := prog_4_method_3_code
def yX2_tryFrom : MethodName := ⟨RX2, "tryFrom", "(LBellTheCat$Search;LBellTheCat$House;IJI)V"⟩
abbrev cX2_takeIfBetter : ByteArray := prog_4_method_4_code
def yX2_takeIfBetter : MethodName := ⟨RX2, "takeIfBetter", "(J)V"⟩
def RX3 : String := "BellTheCat$Sightings"
def TX3 : u_T := fun k => match k with
  | 0 => ("BellTheCat$Sightings", "places", "[I", true)
  | 1 => ("BellTheCat$Sightings", "victims", "[I", true)
  | _ => ("BellTheCat$Sightings", "size", "I", false)
def tyX3 : Nat → FieldType := fun k => match k with
  | 0 => .array .int
  | 1 => .array .int
  | _ => .int
abbrev wsX30 : List Cond := u_ws RX3 TX3 3
theorem nmX3 : ∀ a, a < 3 → ∀ b, b < 3 → a ≠ b → (TX3 a).2.1 ≠ (TX3 b).2.1 := by decide +kernel
theorem tyX3_ok : ∀ k, k < 3 → parseFieldDescriptor (TX3 k).2.2.1 = some (tyX3 k) := by decide +kernel
abbrev cX3_init : ByteArray := prog_5_method_1_code
def yX3_init : MethodName := ⟨RX3, "<init>", "()V"⟩
abbrev cX3_add : ByteArray := prog_5_method_2_code
def yX3_add : MethodName := ⟨RX3, "add", "(II)Z"⟩
abbrev cX3_possibleAt : ByteArray := prog_5_method_3_code
def yX3_possibleAt : MethodName := ⟨RX3, "possibleAt", "(LBellTheCat$House;I)I"⟩
abbrev cX3_isPossible : ByteArray := prog_5_method_4_code
def yX3_isPossible : MethodName := ⟨RX3, "isPossible", "(III)Z"⟩
abbrev cX3_rowCount : ByteArray := prog_5_method_5_code
def yX3_rowCount : MethodName := ⟨RX3, "rowCount", "(LBellTheCat$House;)I"⟩
abbrev cX3_inAllRows : ByteArray := prog_5_method_6_code
def yX3_inAllRows : MethodName := ⟨RX3, "inAllRows", "(LBellTheCat$House;)I"⟩
def RX4 : String := "BellTheCat$Team"
def TX4 : u_T := fun k => match k with
  | 0 => ("BellTheCat$Team", "doers", "[I", true)
  | 1 => ("BellTheCat$Team", "nights", "I", false)
  | 2 => ("BellTheCat$Team", "living", "I", false)
  | _ => ("BellTheCat$Team", "belled", "Z", false)
def tyX4 : Nat → FieldType := fun k => match k with
  | 0 => .array .int
  | 1 => .int
  | 2 => .int
  | _ => .boolean
abbrev wsX40 : List Cond := u_ws RX4 TX4 4
theorem nmX4 : ∀ a, a < 4 → ∀ b, b < 4 → a ≠ b → (TX4 a).2.1 ≠ (TX4 b).2.1 := by decide +kernel
theorem tyX4_ok : ∀ k, k < 4 → parseFieldDescriptor (TX4 k).2.2.1 = some (tyX4 k) := by decide +kernel
abbrev cX4_init : ByteArray := prog_6_method_1_code
def yX4_init : MethodName := ⟨RX4, "<init>", "()V"⟩
abbrev cX4_begin : ByteArray := prog_6_method_2_code
def yX4_begin : MethodName := ⟨RX4, "begin", "(I)V"⟩
abbrev cX4_lives : ByteArray := prog_6_method_3_code
def yX4_lives : MethodName := ⟨RX4, "lives", "(I)Z"⟩
abbrev cX4_doerOf : ByteArray := prog_6_method_4_code
def yX4_doerOf : MethodName := ⟨RX4, "doerOf", "(I)I"⟩
abbrev cX4_setDoer : ByteArray := prog_6_method_5_code
def yX4_setDoer : MethodName := ⟨RX4, "setDoer", "(II)V"⟩
abbrev cX4_dismiss : ByteArray := prog_6_method_6_code
def yX4_dismiss : MethodName := ⟨RX4, "dismiss", "()V"⟩
abbrev cX4_lose : ByteArray := prog_6_method_7_code
def yX4_lose : MethodName := ⟨RX4, "lose", "(I)V"⟩
abbrev cX4_filledSteps : ByteArray := prog_6_method_8_code
def yX4_filledSteps : MethodName := ⟨RX4, "filledSteps", "()I"⟩
abbrev cX4_stepsOf : ByteArray := prog_6_method_9_code
def yX4_stepsOf : MethodName := ⟨RX4, "stepsOf", "(I)I"⟩
abbrev cX4_isWhole : ByteArray := prog_6_method_10_code
def yX4_isWhole : MethodName := ⟨RX4, "isWhole", "(I)Z"⟩
def RX5 : String := "BellTheCat$Text"
def TX5 : u_T := fun k => match k with
  | 0 => ("BellTheCat$Text", "letters", "[I", true)
  | 1 => ("BellTheCat$Text", "numbers", "[I", true)
  | 2 => ("BellTheCat$Text", "length", "I", false)
  | 3 => ("BellTheCat$Text", "clauses", "I", false)
  | 4 => ("BellTheCat$Text", "start", "I", false)
  | _ => ("BellTheCat$Text", "end", "I", false)
def tyX5 : Nat → FieldType := fun k => match k with
  | 0 => .array .int
  | 1 => .array .int
  | 2 => .int
  | 3 => .int
  | 4 => .int
  | _ => .int
abbrev wsX50 : List Cond := u_ws RX5 TX5 6
theorem nmX5 : ∀ a, a < 6 → ∀ b, b < 6 → a ≠ b → (TX5 a).2.1 ≠ (TX5 b).2.1 := by decide +kernel
theorem tyX5_ok : ∀ k, k < 6 → parseFieldDescriptor (TX5 k).2.2.1 = some (tyX5 k) := by decide +kernel
abbrev cX5_init : ByteArray := prog_7_method_1_code
def yX5_init : MethodName := ⟨RX5, "<init>", "()V"⟩
abbrev cX5_append : ByteArray := prog_7_method_2_code
def yX5_append : MethodName := ⟨RX5, "append", "(I)Z"⟩
abbrev cX5_readInto : ByteArray := prog_7_method_3_code
def yX5_readInto : MethodName := ⟨RX5, "readInto", "(LBellTheCat$House;)I"⟩
abbrev cX5_readClause : ByteArray := prog_7_method_4_code
def yX5_readClause : MethodName := ⟨RX5, "readClause", "(LBellTheCat$House;)Z"⟩
abbrev cX5_nextToken : ByteArray := prog_7_method_5_code
def yX5_nextToken : MethodName := ⟨RX5, "nextToken", "()V"⟩
abbrev cX5_endOfBlanks : ByteArray := prog_7_method_6_code
def yX5_endOfBlanks : MethodName := ⟨RX5, "endOfBlanks", "(I)I"⟩
abbrev cX5_endOfWord : ByteArray := prog_7_method_7_code
def yX5_endOfWord : MethodName := ⟨RX5, "endOfWord", "(I)I"⟩
abbrev cX5_endOfNumber : ByteArray := prog_7_method_8_code
def yX5_endOfNumber : MethodName := ⟨RX5, "endOfNumber", "(I)I"⟩
abbrev cX5_letterAt : ByteArray := prog_7_method_9_code
def yX5_letterAt : MethodName := ⟨RX5, "letterAt", "(I)I"⟩
abbrev cX5_isSmall : ByteArray := prog_7_method_10_code
def yX5_isSmall : MethodName := ⟨RX5, "isSmall", "(I)Z"⟩
abbrev cX5_isDigit : ByteArray := prog_7_method_11_code
def yX5_isDigit : MethodName := ⟨RX5, "isDigit", "(I)Z"⟩
abbrev cX5_wordHere : ByteArray := prog_7_method_12_code
def yX5_wordHere : MethodName := ⟨RX5, "wordHere", "()I"⟩
abbrev cX5_isHere : ByteArray := prog_7_method_13_code
def yX5_isHere : MethodName := ⟨RX5, "isHere", "(Ljava/lang/String;)Z"⟩
abbrev cX5_numberHere : ByteArray := prog_7_method_14_code
def yX5_numberHere : MethodName := ⟨RX5, "numberHere", "()I"⟩
abbrev cX5_numbersBehind : ByteArray := prog_7_method_15_code
def yX5_numbersBehind : MethodName := ⟨RX5, "numbersBehind", "(I)I"⟩
abbrev cX5_mostOf : ByteArray := prog_7_method_16_code
def yX5_mostOf : MethodName := ⟨RX5, "mostOf", "(II)I"⟩
def RX6 : String := "BellTheCat$Undo"
def TX6 : u_T := fun k => match k with
  | 0 => ("BellTheCat$Undo", "ring", "[LBellTheCat$Team;", true)
  | 1 => ("BellTheCat$Undo", "next", "I", false)
  | _ => ("BellTheCat$Undo", "depth", "I", false)
def tyX6 : Nat → FieldType := fun k => match k with
  | 0 => .array (.object "BellTheCat$Team")
  | 1 => .int
  | _ => .int
abbrev wsX60 : List Cond := u_ws RX6 TX6 3
theorem nmX6 : ∀ a, a < 3 → ∀ b, b < 3 → a ≠ b → (TX6 a).2.1 ≠ (TX6 b).2.1 := by decide +kernel
theorem tyX6_ok : ∀ k, k < 3 → parseFieldDescriptor (TX6 k).2.2.1 = some (tyX6 k) := by decide +kernel
abbrev cX6_init : ByteArray := prog_8_method_1_code
def yX6_init : MethodName := ⟨RX6, "<init>", "()V"⟩
abbrev cX6_remember : ByteArray := prog_8_method_2_code
def yX6_remember : MethodName := ⟨RX6, "remember", "(LBellTheCat$Team;)V"⟩
abbrev cX6_restore : ByteArray := prog_8_method_3_code
def yX6_restore : MethodName := ⟨RX6, "restore", "(LBellTheCat$Team;)Z"⟩
def RX7 : String := "BellTheCat"
def TX7 : u_T := fun k => match k with
  | 0 => ("BellTheCat", "text", "LBellTheCat$Text;", true)
  | 1 => ("BellTheCat", "told", "LBellTheCat$House;", true)
  | 2 => ("BellTheCat", "draft", "LBellTheCat$House;", true)
  | 3 => ("BellTheCat", "now", "LBellTheCat$Team;", true)
  | 4 => ("BellTheCat", "latest", "LBellTheCat$Undo;", true)
  | 5 => ("BellTheCat", "kept", "[LBellTheCat$Team;", true)
  | 6 => ("BellTheCat", "isKept", "[Z", true)
  | 7 => ("BellTheCat", "sightings", "LBellTheCat$Sightings;", true)
  | 8 => ("BellTheCat", "search", "LBellTheCat$Search;", true)
  | _ => ("BellTheCat", "offers", "LBellTheCat$Offers;", true)
def tyX7 : Nat → FieldType := fun k => match k with
  | 0 => .object "BellTheCat$Text"
  | 1 => .object "BellTheCat$House"
  | 2 => .object "BellTheCat$House"
  | 3 => .object "BellTheCat$Team"
  | 4 => .object "BellTheCat$Undo"
  | 5 => .array (.object "BellTheCat$Team")
  | 6 => .array .boolean
  | 7 => .object "BellTheCat$Sightings"
  | 8 => .object "BellTheCat$Search"
  | _ => .object "BellTheCat$Offers"
abbrev wsX70 : List Cond := u_ws RX7 TX7 10
theorem nmX7 : ∀ a, a < 10 → ∀ b, b < 10 → a ≠ b → (TX7 a).2.1 ≠ (TX7 b).2.1 := by decide +kernel
theorem tyX7_ok : ∀ k, k < 10 → parseFieldDescriptor (TX7 k).2.2.1 = some (tyX7 k) := by decide +kernel
abbrev cX7_init : ByteArray := prog_1_method_1_code
def yX7_init : MethodName := ⟨RX7, "<init>", "()V"⟩
abbrev cX7_write : ByteArray := prog_1_method_2_code
def yX7_write : MethodName := ⟨RX7, "write", "(I)I"⟩
abbrev cX7_erase : ByteArray := prog_1_method_3_code
def yX7_erase : MethodName := ⟨RX7, "erase", "()I"⟩
abbrev cX7_fault : ByteArray := prog_1_method_4_code
def yX7_fault : MethodName := ⟨RX7, "fault", "()I"⟩
abbrev cX7_house : ByteArray := prog_1_method_5_code
def yX7_house : MethodName := ⟨RX7, "house", "()I"⟩
abbrev cX7_mouse : ByteArray := prog_1_method_6_code
def yX7_mouse : MethodName := ⟨RX7, "mouse", "(II)I"⟩
abbrev cX7_step : ByteArray := prog_1_method_7_code
def yX7_step : MethodName := ⟨RX7, "step", "(II)I"⟩
abbrev cX7_rat : ByteArray := prog_1_method_8_code
def yX7_rat : MethodName := ⟨RX7, "rat", "(II)I"⟩
abbrev cX7_as : ByteArray := prog_1_method_9_code
def yX7_as : MethodName := ⟨RX7, "as", "(II)I"⟩
abbrev cX7_danger : ByteArray := prog_1_method_10_code
def yX7_danger : MethodName := ⟨RX7, "danger", "(II)I"⟩
abbrev cX7_put : ByteArray := prog_1_method_11_code
def yX7_put : MethodName := ⟨RX7, "put", "(II)I"⟩
abbrev cX7_clear : ByteArray := prog_1_method_12_code
def yX7_clear : MethodName := ⟨RX7, "clear", "()I"⟩
abbrev cX7_night : ByteArray := prog_1_method_13_code
def yX7_night : MethodName := ⟨RX7, "night", "(I)I"⟩
abbrev cX7_undo : ByteArray := prog_1_method_14_code
def yX7_undo : MethodName := ⟨RX7, "undo", "()I"⟩
abbrev cX7_keep : ByteArray := prog_1_method_15_code
def yX7_keep : MethodName := ⟨RX7, "keep", "(I)I"⟩
abbrev cX7_back : ByteArray := prog_1_method_16_code
def yX7_back : MethodName := ⟨RX7, "back", "(I)I"⟩
abbrev cX7_through : ByteArray := prog_1_method_17_code
def yX7_through : MethodName := ⟨RX7, "through", "(I)I"⟩
abbrev cX7_fails : ByteArray := prog_1_method_18_code
def yX7_fails : MethodName := ⟨RX7, "fails", "(II)I"⟩
abbrev cX7_loss : ByteArray := prog_1_method_19_code
def yX7_loss : MethodName := ⟨RX7, "loss", "(I)I"⟩
abbrev cX7_best : ByteArray := prog_1_method_20_code
def yX7_best : MethodName := ⟨RX7, "best", "(I)I"⟩
abbrev cX7_bestOf : ByteArray := prog_1_method_21_code
def yX7_bestOf : MethodName := ⟨RX7, "bestOf", "(I)I"⟩
abbrev cX7_drawn : ByteArray := prog_1_method_22_code
def yX7_drawn : MethodName := ⟨RX7, "drawn", "(II)I"⟩
abbrev cX7_alone : ByteArray := prog_1_method_23_code
def yX7_alone : MethodName := ⟨RX7, "alone", "(II)I"⟩
abbrev cX7_dread : ByteArray := prog_1_method_24_code
def yX7_dread : MethodName := ⟨RX7, "dread", "(II)I"⟩
abbrev cX7_hires : ByteArray := prog_1_method_25_code
def yX7_hires : MethodName := ⟨RX7, "hires", "(I)I"⟩
abbrev cX7_rests : ByteArray := prog_1_method_26_code
def yX7_rests : MethodName := ⟨RX7, "rests", "(II)I"⟩
abbrev cX7_fund : ByteArray := prog_1_method_27_code
def yX7_fund : MethodName := ⟨RX7, "fund", "()I"⟩
abbrev cX7_rats : ByteArray := prog_1_method_28_code
def yX7_rats : MethodName := ⟨RX7, "rats", "(I)I"⟩
abbrev cX7_shoe : ByteArray := prog_1_method_29_code
def yX7_shoe : MethodName := ⟨RX7, "shoe", "(IIIII)J"⟩
abbrev cX7_callOff : ByteArray := prog_1_method_30_code
def yX7_callOff : MethodName := ⟨RX7, "callOff", "(IIIII)J"⟩
abbrev cX7_seen : ByteArray := prog_1_method_31_code
def yX7_seen : MethodName := ⟨RX7, "seen", "(II)I"⟩
abbrev cX7_forget : ByteArray := prog_1_method_32_code
def yX7_forget : MethodName := ⟨RX7, "forget", "()I"⟩
abbrev cX7_teams : ByteArray := prog_1_method_33_code
def yX7_teams : MethodName := ⟨RX7, "teams", "(I)I"⟩
abbrev cX7_teamOf : ByteArray := prog_1_method_34_code
def yX7_teamOf : MethodName := ⟨RX7, "teamOf", "(I)I"⟩
abbrev cX7_count : ByteArray := prog_1_method_35_code
def yX7_count : MethodName := ⟨RX7, "count", "(I)I"⟩
abbrev cX7_readDraft : ByteArray := prog_1_method_36_code
def yX7_readDraft : MethodName := ⟨RX7, "readDraft", "()I"⟩
abbrev cX7_caughtBy : ByteArray := prog_1_method_37_code
def yX7_caughtBy : MethodName := ⟨RX7, "caughtBy", "(I)I"⟩
abbrev cX7_ticketsInLot : ByteArray := prog_1_method_38_code
def yX7_ticketsInLot : MethodName := ⟨RX7, "ticketsInLot", "(I)I"⟩
abbrev cX7_leastAfraid : ByteArray := prog_1_method_39_code
def yX7_leastAfraid : MethodName := ⟨RX7, "leastAfraid", "()I"⟩
abbrev cX7_comeUpTo : ByteArray := prog_1_method_40_code
def yX7_comeUpTo : MethodName := ⟨RX7, "comeUpTo", "(I)J"⟩
abbrev cX7_caughtAt : ByteArray := prog_1_method_41_code
def yX7_caughtAt : MethodName := ⟨RX7, "caughtAt", "(I)J"⟩
abbrev cX7_within : ByteArray := prog_1_method_42_code
def yX7_within : MethodName := ⟨RX7, "within", "(II)Z"⟩
abbrev cX7_isPart : ByteArray := prog_1_method_43_code
def yX7_isPart : MethodName := ⟨RX7, "isPart", "(I)Z"⟩
abbrev cX7_drawOf : ByteArray := prog_1_method_44_code
def yX7_drawOf : MethodName := ⟨RX7, "drawOf", "(II)I"⟩
abbrev cX7_dangerOf : ByteArray := prog_1_method_45_code
def yX7_dangerOf : MethodName := ⟨RX7, "dangerOf", "(III)I"⟩
abbrev cX7_canBeTakenAs : ByteArray := prog_1_method_46_code
def yX7_canBeTakenAs : MethodName := ⟨RX7, "canBeTakenAs", "(II)Z"⟩
abbrev cX7_copyTeam : ByteArray := prog_1_method_47_code
def yX7_copyTeam : MethodName := ⟨RX7, "copyTeam", "(LBellTheCat$Team;LBellTheCat$Team;)V"⟩
abbrev cX7_partOf : ByteArray := prog_1_method_48_code
def yX7_partOf : MethodName := ⟨RX7, "partOf", "(JJI)J"⟩
abbrev cX7_commonDivisor : ByteArray := prog_1_method_49_code
def yX7_commonDivisor : MethodName := ⟨RX7, "commonDivisor", "(JJ)J"⟩
abbrev cX7_power : ByteArray := prog_1_method_50_code
def yX7_power : MethodName := ⟨RX7, "power", "(II)J"⟩
abbrev cX7_tenTo : ByteArray := prog_1_method_51_code
def yX7_tenTo : MethodName := ⟨RX7, "tenTo", "(I)J"⟩
abbrev cX7_waysToChoose : ByteArray := prog_1_method_52_code
def yX7_waysToChoose : MethodName := ⟨RX7, "waysToChoose", "(II)J"⟩
abbrev cX7_leastOf : ByteArray := prog_1_method_53_code
def yX7_leastOf : MethodName := ⟨RX7, "leastOf", "(I)I"⟩
def RX8 : String := "BellTheCatModel"
def TX8 : u_T := fun k => match k with
  | 0 => ("BellTheCatModel", "thrown", "I", false)
  | 1 => ("BellTheCatModel", "text", "[I", true)
  | 2 => ("BellTheCatModel", "typed", "I", false)
  | 3 => ("BellTheCatModel", "next", "I", false)
  | 4 => ("BellTheCatModel", "token", "I", false)
  | 5 => ("BellTheCatModel", "place", "I", false)
  | 6 => ("BellTheCatModel", "value", "I", false)
  | 7 => ("BellTheCatModel", "figures", "I", false)
  | 8 => ("BellTheCatModel", "clauses", "I", false)
  | 9 => ("BellTheCatModel", "faultAt", "I", false)
  | 10 => ("BellTheCatModel", "mice", "[I", true)
  | 11 => ("BellTheCatModel", "noise", "[I", true)
  | 12 => ("BellTheCatModel", "rats", "[I", true)
  | 13 => ("BellTheCatModel", "many", "[I", true)
  | 14 => ("BellTheCatModel", "s", "[I", true)
  | 15 => ("BellTheCatModel", "before", "[I", true)
  | 16 => ("BellTheCatModel", "undos", "I", false)
  | 17 => ("BellTheCatModel", "kept", "[I", true)
  | 18 => ("BellTheCatModel", "isKept", "[Z", true)
  | 19 => ("BellTheCatModel", "seenStep", "[I", true)
  | 20 => ("BellTheCatModel", "seenMouse", "[I", true)
  | 21 => ("BellTheCatModel", "seenMany", "I", false)
  | 22 => ("BellTheCatModel", "row", "[I", true)
  | _ => ("BellTheCatModel", "bestRow", "[I", true)
def tyX8 : Nat → FieldType := fun k => match k with
  | 0 => .int
  | 1 => .array .int
  | 2 => .int
  | 3 => .int
  | 4 => .int
  | 5 => .int
  | 6 => .int
  | 7 => .int
  | 8 => .int
  | 9 => .int
  | 10 => .array .int
  | 11 => .array .int
  | 12 => .array .int
  | 13 => .array .int
  | 14 => .array .int
  | 15 => .array .int
  | 16 => .int
  | 17 => .array .int
  | 18 => .array .boolean
  | 19 => .array .int
  | 20 => .array .int
  | 21 => .int
  | 22 => .array .int
  | _ => .array .int
abbrev wsX80 : List Cond := u_ws RX8 TX8 24
theorem nmX8 : ∀ a, a < 24 → ∀ b, b < 24 → a ≠ b → (TX8 a).2.1 ≠ (TX8 b).2.1 := by decide +kernel
theorem tyX8_ok : ∀ k, k < 24 → parseFieldDescriptor (TX8 k).2.2.1 = some (tyX8 k) := by decide +kernel
abbrev cX8_init : ByteArray := prog_10_method_1_code
def yX8_init : MethodName := ⟨RX8, "<init>", "()V"⟩
abbrev cX8_in : ByteArray := prog_10_method_3_code
def yX8_in : MethodName := ⟨RX8, "in", "(III)Z"⟩
abbrev cX8_ones : ByteArray := prog_10_method_4_code
def yX8_ones : MethodName := ⟨RX8, "ones", "(I)I"⟩
abbrev cX8_write : ByteArray := prog_10_method_5_code
def yX8_write : MethodName := ⟨RX8, "write", "(I)I"⟩
abbrev cX8_erase : ByteArray := prog_10_method_6_code
def yX8_erase : MethodName := ⟨RX8, "erase", "()I"⟩
abbrev cX8_letterAt : ByteArray := prog_10_method_7_code
def yX8_letterAt : MethodName := ⟨RX8, "letterAt", "(I)I"⟩
abbrev cX8_isWord : ByteArray := prog_10_method_8_code
def yX8_isWord : MethodName := ⟨RX8, "isWord", "(JI)Z"⟩
abbrev cX8_wordOf : ByteArray := prog_10_method_9_code
def yX8_wordOf : MethodName := ⟨RX8, "wordOf", "()I"⟩
abbrev cX8_advances : ByteArray := prog_10_method_10_code
def yX8_advances : MethodName := ⟨RX8, "advances", "()V"⟩
abbrev cX8_fails : ByteArray := prog_10_method_11_code
def yX8_fails : MethodName := ⟨RX8, "fails", "()V"⟩
abbrev cX8_number : ByteArray := prog_10_method_12_code
def yX8_number : MethodName := ⟨RX8, "number", "(I)I"⟩
abbrev cX8_canStand : ByteArray := prog_10_method_13_code
def yX8_canStand : MethodName := ⟨RX8, "canStand", "(I)Z"⟩
abbrev cX8_clause : ByteArray := prog_10_method_14_code
def yX8_clause : MethodName := ⟨RX8, "clause", "(I)V"⟩
abbrev cX8_drafts : ByteArray := prog_10_method_15_code
def yX8_drafts : MethodName := ⟨RX8, "drafts", "()V"⟩
abbrev cX8_reads : ByteArray := prog_10_method_16_code
def yX8_reads : MethodName := ⟨RX8, "reads", "()V"⟩
abbrev cX8_fault : ByteArray := prog_10_method_17_code
def yX8_fault : MethodName := ⟨RX8, "fault", "()I"⟩
abbrev cX8_house : ByteArray := prog_10_method_18_code
def yX8_house : MethodName := ⟨RX8, "house", "()I"⟩
abbrev cX8_isMouse : ByteArray := prog_10_method_19_code
def yX8_isMouse : MethodName := ⟨RX8, "isMouse", "(I)Z"⟩
abbrev cX8_isStep : ByteArray := prog_10_method_20_code
def yX8_isStep : MethodName := ⟨RX8, "isStep", "(I)Z"⟩
abbrev cX8_isLiving : ByteArray := prog_10_method_21_code
def yX8_isLiving : MethodName := ⟨RX8, "isLiving", "(I)Z"⟩
abbrev cX8_stepsOf : ByteArray := prog_10_method_22_code
def yX8_stepsOf : MethodName := ⟨RX8, "stepsOf", "(I)I"⟩
abbrev cX8_mouse : ByteArray := prog_10_method_23_code
def yX8_mouse : MethodName := ⟨RX8, "mouse", "(II)I"⟩
abbrev cX8_step : ByteArray := prog_10_method_24_code
def yX8_step : MethodName := ⟨RX8, "step", "(II)I"⟩
abbrev cX8_rat : ByteArray := prog_10_method_25_code
def yX8_rat : MethodName := ⟨RX8, "rat", "(II)I"⟩
abbrev cX8_dangerBy : ByteArray := prog_10_method_26_code
def yX8_dangerBy : MethodName := ⟨RX8, "dangerBy", "(III)I"⟩
abbrev cX8_dangerTo : ByteArray := prog_10_method_27_code
def yX8_dangerTo : MethodName := ⟨RX8, "dangerTo", "(II)I"⟩
abbrev cX8_as : ByteArray := prog_10_method_28_code
def yX8_as : MethodName := ⟨RX8, "as", "(II)I"⟩
abbrev cX8_danger : ByteArray := prog_10_method_29_code
def yX8_danger : MethodName := ⟨RX8, "danger", "(II)I"⟩
abbrev cX8_done : ByteArray := prog_10_method_30_code
def yX8_done : MethodName := ⟨RX8, "done", "()I"⟩
abbrev cX8_notes : ByteArray := prog_10_method_31_code
def yX8_notes : MethodName := ⟨RX8, "notes", "()V"⟩
abbrev cX8_put : ByteArray := prog_10_method_32_code
def yX8_put : MethodName := ⟨RX8, "put", "(II)I"⟩
abbrev cX8_clear : ByteArray := prog_10_method_33_code
def yX8_clear : MethodName := ⟨RX8, "clear", "()I"⟩
abbrev cX8_isWhole : ByteArray := prog_10_method_34_code
def yX8_isWhole : MethodName := ⟨RX8, "isWhole", "()Z"⟩
abbrev cX8_drawOf : ByteArray := prog_10_method_35_code
def yX8_drawOf : MethodName := ⟨RX8, "drawOf", "(II)I"⟩
abbrev cX8_night : ByteArray := prog_10_method_36_code
def yX8_night : MethodName := ⟨RX8, "night", "(I)I"⟩
abbrev cX8_undo : ByteArray := prog_10_method_37_code
def yX8_undo : MethodName := ⟨RX8, "undo", "()I"⟩
abbrev cX8_keep : ByteArray := prog_10_method_38_code
def yX8_keep : MethodName := ⟨RX8, "keep", "(I)I"⟩
abbrev cX8_back : ByteArray := prog_10_method_39_code
def yX8_back : MethodName := ⟨RX8, "back", "(I)I"⟩
abbrev cX8_gcd : ByteArray := prog_10_method_40_code
def yX8_gcd : MethodName := ⟨RX8, "gcd", "(JJ)J"⟩
abbrev cX8_part : ByteArray := prog_10_method_41_code
def yX8_part : MethodName := ⟨RX8, "part", "(JJI)J"⟩
abbrev cX8_power : ByteArray := prog_10_method_42_code
def yX8_power : MethodName := ⟨RX8, "power", "(JI)J"⟩
abbrev cX8_isPart : ByteArray := prog_10_method_43_code
def yX8_isPart : MethodName := ⟨RX8, "isPart", "(I)Z"⟩
abbrev cX8_throughTo : ByteArray := prog_10_method_44_code
def yX8_throughTo : MethodName := ⟨RX8, "throughTo", "(I)J"⟩
abbrev cX8_through : ByteArray := prog_10_method_45_code
def yX8_through : MethodName := ⟨RX8, "through", "(I)I"⟩
abbrev cX8_fails_ : ByteArray := prog_10_method_46_code
def yX8_fails_ : MethodName := ⟨RX8, "fails", "(II)I"⟩
abbrev cX8_loss : ByteArray := prog_10_method_47_code
def yX8_loss : MethodName := ⟨RX8, "loss", "(I)I"⟩
abbrev cX8_rowsOf : ByteArray := prog_10_method_48_code
def yX8_rowsOf : MethodName := ⟨RX8, "rowsOf", "(II)I"⟩
abbrev cX8_rowOf : ByteArray := prog_10_method_49_code
def yX8_rowOf : MethodName := ⟨RX8, "rowOf", "(I)V"⟩
abbrev cX8_mayGo : ByteArray := prog_10_method_50_code
def yX8_mayGo : MethodName := ⟨RX8, "mayGo", "()Z"⟩
abbrev cX8_findsBest : ByteArray := prog_10_method_51_code
def yX8_findsBest : MethodName := ⟨RX8, "findsBest", "()J"⟩
abbrev cX8_best : ByteArray := prog_10_method_52_code
def yX8_best : MethodName := ⟨RX8, "best", "(I)I"⟩
abbrev cX8_bestOf : ByteArray := prog_10_method_53_code
def yX8_bestOf : MethodName := ⟨RX8, "bestOf", "(I)I"⟩
abbrev cX8_tickets : ByteArray := prog_10_method_54_code
def yX8_tickets : MethodName := ⟨RX8, "tickets", "()I"⟩
abbrev cX8_drawn : ByteArray := prog_10_method_55_code
def yX8_drawn : MethodName := ⟨RX8, "drawn", "(II)I"⟩
abbrev cX8_caughtAlone : ByteArray := prog_10_method_56_code
def yX8_caughtAlone : MethodName := ⟨RX8, "caughtAlone", "(I)J"⟩
abbrev cX8_alone : ByteArray := prog_10_method_57_code
def yX8_alone : MethodName := ⟨RX8, "alone", "(II)I"⟩
abbrev cX8_dreadOf : ByteArray := prog_10_method_58_code
def yX8_dreadOf : MethodName := ⟨RX8, "dreadOf", "(I)J"⟩
abbrev cX8_dread : ByteArray := prog_10_method_59_code
def yX8_dread : MethodName := ⟨RX8, "dread", "(II)I"⟩
abbrev cX8_hires : ByteArray := prog_10_method_60_code
def yX8_hires : MethodName := ⟨RX8, "hires", "(I)I"⟩
abbrev cX8_isAtRest : ByteArray := prog_10_method_61_code
def yX8_isAtRest : MethodName := ⟨RX8, "isAtRest", "(II)Z"⟩
abbrev cX8_leastAtRest : ByteArray := prog_10_method_62_code
def yX8_leastAtRest : MethodName := ⟨RX8, "leastAtRest", "(IZ)I"⟩
abbrev cX8_rests : ByteArray := prog_10_method_63_code
def yX8_rests : MethodName := ⟨RX8, "rests", "(II)I"⟩
abbrev cX8_fund : ByteArray := prog_10_method_64_code
def yX8_fund : MethodName := ⟨RX8, "fund", "()I"⟩
abbrev cX8_worthOf : ByteArray := prog_10_method_65_code
def yX8_worthOf : MethodName := ⟨RX8, "worthOf", "(I)I"⟩
abbrev cX8_rats : ByteArray := prog_10_method_66_code
def yX8_rats : MethodName := ⟨RX8, "rats", "(I)I"⟩
abbrev cX8_choose : ByteArray := prog_10_method_67_code
def yX8_choose : MethodName := ⟨RX8, "choose", "(II)J"⟩
abbrev cX8_shoe : ByteArray := prog_10_method_68_code
def yX8_shoe : MethodName := ⟨RX8, "shoe", "(IIIII)J"⟩
abbrev cX8_callOff : ByteArray := prog_10_method_69_code
def yX8_callOff : MethodName := ⟨RX8, "callOff", "(IIIII)J"⟩
abbrev cX8_seen : ByteArray := prog_10_method_70_code
def yX8_seen : MethodName := ⟨RX8, "seen", "(II)I"⟩
abbrev cX8_forget : ByteArray := prog_10_method_71_code
def yX8_forget : MethodName := ⟨RX8, "forget", "()I"⟩
abbrev cX8_couldBe : ByteArray := prog_10_method_72_code
def yX8_couldBe : MethodName := ⟨RX8, "couldBe", "()Z"⟩
abbrev cX8_rowSet : ByteArray := prog_10_method_73_code
def yX8_rowSet : MethodName := ⟨RX8, "rowSet", "()I"⟩
abbrev cX8_teams : ByteArray := prog_10_method_74_code
def yX8_teams : MethodName := ⟨RX8, "teams", "(I)I"⟩
abbrev cX8_teamOf : ByteArray := prog_10_method_75_code
def yX8_teamOf : MethodName := ⟨RX8, "teamOf", "(I)I"⟩
abbrev cX8_count : ByteArray := prog_10_method_76_code
def yX8_count : MethodName := ⟨RX8, "count", "(I)I"⟩
def RJx145de : String := "java/io/Serializable"
def TJx145de : u_T := fun k => match k with
  | _ => ("", "", "", false)
def tyJx145de : Nat → FieldType := fun k => match k with
  | _ => .int
abbrev wsJx145de0 : List Cond := u_ws RJx145de TJx145de 0
theorem nmJx145de : ∀ a, a < 0 → ∀ b, b < 0 → a ≠ b → (TJx145de a).2.1 ≠ (TJx145de b).2.1 := by decide +kernel
theorem tyJx145de_ok : ∀ k, k < 0 → parseFieldDescriptor (TJx145de k).2.2.1 = some (tyJx145de k) := by decide +kernel
def RJx9f9b0 : String := "java/lang/CharSequence"
def TJx9f9b0 : u_T := fun k => match k with
  | _ => ("", "", "", false)
def tyJx9f9b0 : Nat → FieldType := fun k => match k with
  | _ => .int
abbrev wsJx9f9b00 : List Cond := u_ws RJx9f9b0 TJx9f9b0 0
theorem nmJx9f9b0 : ∀ a, a < 0 → ∀ b, b < 0 → a ≠ b → (TJx9f9b0 a).2.1 ≠ (TJx9f9b0 b).2.1 := by decide +kernel
theorem tyJx9f9b0_ok : ∀ k, k < 0 → parseFieldDescriptor (TJx9f9b0 k).2.2.1 = some (tyJx9f9b0 k) := by decide +kernel
def RJxb160c : String := "java/lang/Comparable"
def TJxb160c : u_T := fun k => match k with
  | _ => ("", "", "", false)
def tyJxb160c : Nat → FieldType := fun k => match k with
  | _ => .int
abbrev wsJxb160c0 : List Cond := u_ws RJxb160c TJxb160c 0
theorem nmJxb160c : ∀ a, a < 0 → ∀ b, b < 0 → a ≠ b → (TJxb160c a).2.1 ≠ (TJxb160c b).2.1 := by decide +kernel
theorem tyJxb160c_ok : ∀ k, k < 0 → parseFieldDescriptor (TJxb160c k).2.2.1 = some (tyJxb160c k) := by decide +kernel
def RJ6 : String := "java/lang/Integer"
def TJ6 : u_T := fun k => match k with
  | _ => ("", "", "", false)
def tyJ6 : Nat → FieldType := fun k => match k with
  | _ => .int
abbrev wsJ60 : List Cond := u_ws RJ6 TJ6 0
theorem nmJ6 : ∀ a, a < 0 → ∀ b, b < 0 → a ≠ b → (TJ6 a).2.1 ≠ (TJ6 b).2.1 := by decide +kernel
theorem tyJ6_ok : ∀ k, k < 0 → parseFieldDescriptor (TJ6 k).2.2.1 = some (tyJ6 k) := by decide +kernel
abbrev cJ6_bitCount_0f7a4 : ByteArray := prog_11_method_49_code
def yJ6_bitCount_0f7a4 : MethodName := ⟨RJ6, "bitCount", "(I)I"⟩
def RJ9 : String := "java/lang/Math"
def TJ9 : u_T := fun k => match k with
  | _ => ("", "", "", false)
def tyJ9 : Nat → FieldType := fun k => match k with
  | _ => .int
abbrev wsJ90 : List Cond := u_ws RJ9 TJ9 0
theorem nmJ9 : ∀ a, a < 0 → ∀ b, b < 0 → a ≠ b → (TJ9 a).2.1 ≠ (TJ9 b).2.1 := by decide +kernel
theorem tyJ9_ok : ∀ k, k < 0 → parseFieldDescriptor (TJ9 k).2.2.1 = some (tyJ9 k) := by decide +kernel
abbrev cJ9_max_7cf53 : ByteArray := prog_12_method_65_code
def yJ9_max_7cf53 : MethodName := ⟨RJ9, "max", "(II)I"⟩
abbrev cJ9_max_f86c9 : ByteArray := prog_12_method_66_code
def yJ9_max_f86c9 : MethodName := ⟨RJ9, "max", "(JJ)J"⟩
abbrev cJ9_min_7cf53 : ByteArray := prog_12_method_69_code
def yJ9_min_7cf53 : MethodName := ⟨RJ9, "min", "(II)I"⟩
def RJ0 : String := "java/lang/String"
def TJ0 : u_T := fun k => match k with
  | _ => ("", "", "", false)
def tyJ0 : Nat → FieldType := fun k => match k with
  | _ => .int
abbrev wsJ00 : List Cond := u_ws RJ0 TJ0 0
theorem nmJ0 : ∀ a, a < 0 → ∀ b, b < 0 → a ≠ b → (TJ0 a).2.1 ≠ (TJ0 b).2.1 := by decide +kernel
theorem tyJ0_ok : ∀ k, k < 0 → parseFieldDescriptor (TJ0 k).2.2.1 = some (tyJ0 k) := by decide +kernel
abbrev cJ0_length_8abf5 : ByteArray := prog_13_method_54_code
def yJ0_length_8abf5 : MethodName := ⟨RJ0, "length", "()I"⟩
abbrev cJ0_charAt_5068e : ByteArray := prog_13_method_56_code
def yJ0_charAt_5068e : MethodName := ⟨RJ0, "charAt", "(I)C"⟩
abbrev cJ0_coder_7d493 : ByteArray := prog_13_method_152_code
def yJ0_coder_7d493 : MethodName := ⟨RJ0, "coder", "()B"⟩
abbrev cJ0_isLatin1_aae02 : ByteArray := prog_13_method_154_code
def yJ0_isLatin1_aae02 : MethodName := ⟨RJ0, "isLatin1", "()Z"⟩
abbrev cJ0_checkIndex_df160 : ByteArray := prog_13_method_155_code
def yJ0_checkIndex_df160 : MethodName := ⟨RJ0, "checkIndex", "(II)V"⟩
def RJ1 : String := "java/lang/StringLatin1"
def TJ1 : u_T := fun k => match k with
  | _ => ("", "", "", false)
def tyJ1 : Nat → FieldType := fun k => match k with
  | _ => .int
abbrev wsJ10 : List Cond := u_ws RJ1 TJ1 0
theorem nmJ1 : ∀ a, a < 0 → ∀ b, b < 0 → a ≠ b → (TJ1 a).2.1 ≠ (TJ1 b).2.1 := by decide +kernel
theorem tyJ1_ok : ∀ k, k < 0 → parseFieldDescriptor (TJ1 k).2.2.1 = some (tyJ1 k) := by decide +kernel
abbrev cJ1_charAt_3b067 : ByteArray := prog_14_method_2_code
def yJ1_charAt_3b067 : MethodName := ⟨RJ1, "charAt", "([BI)C"⟩
def RJ2 : String := "java/lang/StringUTF16"
def TJ2 : u_T := fun k => match k with
  | _ => ("", "", "", false)
def tyJ2 : Nat → FieldType := fun k => match k with
  | _ => .int
abbrev wsJ20 : List Cond := u_ws RJ2 TJ2 0
theorem nmJ2 : ∀ a, a < 0 → ∀ b, b < 0 → a ≠ b → (TJ2 a).2.1 ≠ (TJ2 b).2.1 := by decide +kernel
theorem tyJ2_ok : ∀ k, k < 0 → parseFieldDescriptor (TJ2 k).2.2.1 = some (tyJ2 k) := by decide +kernel
abbrev cJ2_getChar_3b067 : ByteArray := prog_15_method_5_code
def yJ2_getChar_3b067 : MethodName := ⟨RJ2, "getChar", "([BI)C"⟩
abbrev cJ2_length_9d52b : ByteArray := prog_15_method_6_code
def yJ2_length_9d52b : MethodName := ⟨RJ2, "length", "([B)I"⟩
abbrev cJ2_charAt_3b067 : ByteArray := prog_15_method_83_code
def yJ2_charAt_3b067 : MethodName := ⟨RJ2, "charAt", "([BI)C"⟩
abbrev cJ2_checkIndex_2214a : ByteArray := prog_15_method_91_code
def yJ2_checkIndex_2214a : MethodName := ⟨RJ2, "checkIndex", "(I[B)V"⟩
def RJ10 : String := "java/lang/System"
def TJ10 : u_T := fun k => match k with
  | _ => ("", "", "", false)
def tyJ10 : Nat → FieldType := fun k => match k with
  | _ => .int
abbrev wsJ100 : List Cond := u_ws RJ10 TJ10 0
theorem nmJ10 : ∀ a, a < 0 → ∀ b, b < 0 → a ≠ b → (TJ10 a).2.1 ≠ (TJ10 b).2.1 := by decide +kernel
theorem tyJ10_ok : ∀ k, k < 0 → parseFieldDescriptor (TJ10 k).2.2.1 = some (tyJ10 k) := by decide +kernel
def RJxfd54e : String := "java/lang/constant/Constable"
def TJxfd54e : u_T := fun k => match k with
  | _ => ("", "", "", false)
def tyJxfd54e : Nat → FieldType := fun k => match k with
  | _ => .int
abbrev wsJxfd54e0 : List Cond := u_ws RJxfd54e TJxfd54e 0
theorem nmJxfd54e : ∀ a, a < 0 → ∀ b, b < 0 → a ≠ b → (TJxfd54e a).2.1 ≠ (TJxfd54e b).2.1 := by decide +kernel
theorem tyJxfd54e_ok : ∀ k, k < 0 → parseFieldDescriptor (TJxfd54e k).2.2.1 = some (tyJxfd54e k) := by decide +kernel
def RJx3cf43 : String := "java/lang/constant/ConstantDesc"
def TJx3cf43 : u_T := fun k => match k with
  | _ => ("", "", "", false)
def tyJx3cf43 : Nat → FieldType := fun k => match k with
  | _ => .int
abbrev wsJx3cf430 : List Cond := u_ws RJx3cf43 TJx3cf43 0
theorem nmJx3cf43 : ∀ a, a < 0 → ∀ b, b < 0 → a ≠ b → (TJx3cf43 a).2.1 ≠ (TJx3cf43 b).2.1 := by decide +kernel
theorem tyJx3cf43_ok : ∀ k, k < 0 → parseFieldDescriptor (TJx3cf43 k).2.2.1 = some (tyJx3cf43 k) := by decide +kernel
def RJ7 : String := "java/util/Arrays"
def TJ7 : u_T := fun k => match k with
  | _ => ("", "", "", false)
def tyJ7 : Nat → FieldType := fun k => match k with
  | _ => .int
abbrev wsJ70 : List Cond := u_ws RJ7 TJ7 0
theorem nmJ7 : ∀ a, a < 0 → ∀ b, b < 0 → a ≠ b → (TJ7 a).2.1 ≠ (TJ7 b).2.1 := by decide +kernel
theorem tyJ7_ok : ∀ k, k < 0 → parseFieldDescriptor (TJ7 k).2.2.1 = some (tyJ7 k) := by decide +kernel
abbrev cJ7_fill_53178 : ByteArray := prog_17_method_103_code
def yJ7_fill_53178 : MethodName := ⟨RJ7, "fill", "([II)V"⟩
def RJ3 : String := "jdk/internal/util/Preconditions"
def TJ3 : u_T := fun k => match k with
  | _ => ("", "", "", false)
def tyJ3 : Nat → FieldType := fun k => match k with
  | _ => .int
abbrev wsJ30 : List Cond := u_ws RJ3 TJ3 0
theorem nmJ3 : ∀ a, a < 0 → ∀ b, b < 0 → a ≠ b → (TJ3 a).2.1 ≠ (TJ3 b).2.1 := by decide +kernel
theorem tyJ3_ok : ∀ k, k < 0 → parseFieldDescriptor (TJ3 k).2.2.1 = some (tyJ3 k) := by decide +kernel
abbrev cJ3_checkIndex_8e157 : ByteArray := prog_18_method_11_code
def yJ3_checkIndex_8e157 : MethodName := ⟨RJ3, "checkIndex", "(IILjava/util/function/BiFunction;)I"⟩
def RL : String := "BellTheCatLaw"
abbrev cL_law : ByteArray := code
def yL_law : MethodName := ⟨RL, "law", "([I)Z"⟩
def wsX0_init : List Cond := .code yX0_init cX0_init 1 none :: ([.methodLink RX0 3 objectInit, .instanceMethod objectInit, .code objectInit ⟨#[0xb1]⟩ 1 none, .arrayClass .int, .fieldLink RX0 9 "BellTheCat$House" "kinds" "[I", .fieldLink RX0 15 "BellTheCat$House" "speeds" "[I", .fieldLink RX0 18 "BellTheCat$House" "fears" "[I", .fieldLink RX0 21 "BellTheCat$House" "tickets" "[I", .fieldLink RX0 24 "BellTheCat$House" "noises" "[I", .fieldLink RX0 27 "BellTheCat$House" "prices" "[I", .fieldLink RX0 30 "BellTheCat$House" "skills" "[I", .fieldLink RX0 33 "BellTheCat$House" "words" "[I", .fieldLink RX0 36 "BellTheCat$House" "gain" "I"] ++ wsX00)
def wsX0_copyFrom : List Cond := .code yX0_copyFrom cX0_copyFrom 3 none :: ([.fieldLink RX0 9 "BellTheCat$House" "kinds" "[I", .fieldLink RX0 15 "BellTheCat$House" "speeds" "[I", .fieldLink RX0 18 "BellTheCat$House" "fears" "[I", .fieldLink RX0 21 "BellTheCat$House" "tickets" "[I", .fieldLink RX0 24 "BellTheCat$House" "noises" "[I", .fieldLink RX0 27 "BellTheCat$House" "prices" "[I", .fieldLink RX0 30 "BellTheCat$House" "skills" "[I", .fieldLink RX0 33 "BellTheCat$House" "words" "[I", .fieldLink RX0 40 "BellTheCat$House" "miceCount" "I", .fieldLink RX0 43 "BellTheCat$House" "stepCount" "I", .fieldLink RX0 46 "BellTheCat$House" "ratCount" "I", .fieldLink RX0 36 "BellTheCat$House" "gain" "I"] ++ wsX00)
def wsX0_hasMouse : List Cond := .code yX0_hasMouse cX0_hasMouse 2 (some .boolean) :: ([.fieldLink RX0 40 "BellTheCat$House" "miceCount" "I"] ++ wsX00)
def wsX0_hasStep : List Cond := .code yX0_hasStep cX0_hasStep 2 (some .boolean) :: ([.fieldLink RX0 43 "BellTheCat$House" "stepCount" "I"] ++ wsX00)
def wsX0_hasRat : List Cond := .code yX0_hasRat cX0_hasRat 2 (some .boolean) :: ([.fieldLink RX0 46 "BellTheCat$House" "ratCount" "I"] ++ wsX00)
def wsX0_takes : List Cond := .code yX0_takes cX0_takes 2 (some .boolean) :: ([.fieldLink RX0 40 "BellTheCat$House" "miceCount" "I", .fieldLink RX0 43 "BellTheCat$House" "stepCount" "I", .fieldLink RX0 46 "BellTheCat$House" "ratCount" "I"] ++ wsX00)
def wsX0_addRat : List Cond := .code yX0_addRat cX0_addRat 4 none :: ([.fieldLink RX0 46 "BellTheCat$House" "ratCount" "I", .fieldLink RX0 27 "BellTheCat$House" "prices" "[I", .fieldLink RX0 30 "BellTheCat$House" "skills" "[I", .fieldLink RX0 33 "BellTheCat$House" "words" "[I"] ++ wsX00)
def wsX0_empty : List Cond := .code yX0_empty cX0_empty 1 none :: ([.fieldLink RX0 40 "BellTheCat$House" "miceCount" "I", .fieldLink RX0 43 "BellTheCat$House" "stepCount" "I", .fieldLink RX0 46 "BellTheCat$House" "ratCount" "I", .fieldLink RX0 36 "BellTheCat$House" "gain" "I"] ++ wsX00)
def wsX0_addMouse : List Cond := .code yX0_addMouse cX0_addMouse 5 none :: ([.fieldLink RX0 40 "BellTheCat$House" "miceCount" "I", .fieldLink RX0 9 "BellTheCat$House" "kinds" "[I", .fieldLink RX0 15 "BellTheCat$House" "speeds" "[I", .fieldLink RX0 18 "BellTheCat$House" "fears" "[I", .fieldLink RX0 21 "BellTheCat$House" "tickets" "[I"] ++ wsX00)
def wsX0_apply_r1 : List Cond := [Cond.fieldLink RX0 24 "BellTheCat$House" "noises" "[I", Cond.fieldLink RX0 43 "BellTheCat$House" "stepCount" "I", Cond.fieldLink RX0 36 "BellTheCat$House" "gain" "I", Cond.methodLink RX0 49 yX0_takes, Cond.instanceMethod yX0_takes, Cond.selects RX0 yX0_takes yX0_takes, Cond.initialized RX0, Cond.code yX0_takes cX0_takes 2 (some .boolean), Cond.fieldLink RX0 40 "BellTheCat$House" "miceCount" "I", Cond.fieldLink RX0 46 "BellTheCat$House" "ratCount" "I", Cond.methodLink RX0 53 yX0_addRat, Cond.instanceMethod yX0_addRat, Cond.selects RX0 yX0_addRat yX0_addRat, Cond.code yX0_addRat cX0_addRat 4 none, Cond.fieldLink RX0 27 "BellTheCat$House" "prices" "[I", Cond.fieldLink RX0 30 "BellTheCat$House" "skills" "[I", Cond.fieldLink RX0 33 "BellTheCat$House" "words" "[I", Cond.methodLink RX0 57 yX0_empty, Cond.instanceMethod yX0_empty, Cond.selects RX0 yX0_empty yX0_empty, Cond.code yX0_empty cX0_empty 1 none, Cond.methodLink RX0 60 yX0_addMouse, Cond.instanceMethod yX0_addMouse, Cond.selects RX0 yX0_addMouse yX0_addMouse]
def wsX0_apply_r2 : List Cond := [Cond.code yX0_addMouse cX0_addMouse 5 none, Cond.fieldLink RX0 9 "BellTheCat$House" "kinds" "[I", Cond.fieldLink RX0 15 "BellTheCat$House" "speeds" "[I", Cond.fieldLink RX0 18 "BellTheCat$House" "fears" "[I", Cond.fieldLink RX0 21 "BellTheCat$House" "tickets" "[I"]
def wsX0_apply : List Cond := .code yX0_apply cX0_apply 5 none :: ((wsX0_apply_r1 ++ wsX0_apply_r2) ++ wsX00)
def wsX0_fearOf : List Cond := .code yX0_fearOf cX0_fearOf 2 (some .int) :: ([.fieldLink RX0 18 "BellTheCat$House" "fears" "[I", .methodLink RX0 64 yX0_hasMouse, .instanceMethod yX0_hasMouse, .selects RX0 yX0_hasMouse yX0_hasMouse, .initialized RX0, .code yX0_hasMouse cX0_hasMouse 2 (some .boolean), .fieldLink RX0 40 "BellTheCat$House" "miceCount" "I"] ++ wsX00)
def wsX0_worthOf : List Cond := .code yX0_worthOf cX0_worthOf 2 (some .int) :: ([.fieldLink RX0 36 "BellTheCat$House" "gain" "I", .fieldLink RX0 30 "BellTheCat$House" "skills" "[I", .fieldLink RX0 33 "BellTheCat$House" "words" "[I", .fieldLink RX0 27 "BellTheCat$House" "prices" "[I", .methodLink RX0 67 yX0_hasRat, .instanceMethod yX0_hasRat, .selects RX0 yX0_hasRat yX0_hasRat, .initialized RX0, .code yX0_hasRat cX0_hasRat 2 (some .boolean), .fieldLink RX0 46 "BellTheCat$House" "ratCount" "I"] ++ wsX00)
def wsX7_dangerOf : List Cond := .code yX7_dangerOf cX7_dangerOf 4 (some .int) :: ([.methodLink RX7 317 Lib.Math.max.name, .static Lib.Math.max.name, .initialized "java/lang/Math", .code Lib.Math.max.name Lib.Math.max.code 2 (some .int), .methodLink RX7 272 Lib.Math.min.name, .static Lib.Math.min.name, .code Lib.Math.min.name Lib.Math.min.code 2 (some .int)])
def wsX0_dangerAt : List Cond := .code yX0_dangerAt cX0_dangerAt 3 (some .int) :: ([.fieldLink RX0 24 "BellTheCat$House" "noises" "[I", .fieldLink RX0 9 "BellTheCat$House" "kinds" "[I", .fieldLink RX0 15 "BellTheCat$House" "speeds" "[I", .methodLink RX0 70 yX0_hasStep, .instanceMethod yX0_hasStep, .selects RX0 yX0_hasStep yX0_hasStep, .initialized RX0, .code yX0_hasStep cX0_hasStep 2 (some .boolean), .fieldLink RX0 43 "BellTheCat$House" "stepCount" "I", .methodLink RX0 64 yX0_hasMouse, .instanceMethod yX0_hasMouse, .selects RX0 yX0_hasMouse yX0_hasMouse, .code yX0_hasMouse cX0_hasMouse 2 (some .boolean), .fieldLink RX0 40 "BellTheCat$House" "miceCount" "I", .static yX7_dangerOf, .initialized RX7, .code yX7_dangerOf cX7_dangerOf 4 (some .int), .methodLink RX7 317 Lib.Math.max.name, .static Lib.Math.max.name, .initialized "java/lang/Math", .code Lib.Math.max.name Lib.Math.max.code 2 (some .int), .methodLink RX7 272 Lib.Math.min.name, .static Lib.Math.min.name, .code Lib.Math.min.name Lib.Math.min.code 2 (some .int)] ++ wsX00)
def wsX0_aloneAbove_r1 : List Cond := [Cond.fieldLink RX0 43 "BellTheCat$House" "stepCount" "I", Cond.constantLong RX0 77 (10), Cond.methodLink RX0 79 yX0_dangerAt, Cond.instanceMethod yX0_dangerAt, Cond.selects RX0 yX0_dangerAt yX0_dangerAt, Cond.initialized RX0, Cond.code yX0_dangerAt cX0_dangerAt 3 (some .int), Cond.fieldLink RX0 24 "BellTheCat$House" "noises" "[I", Cond.fieldLink RX0 9 "BellTheCat$House" "kinds" "[I", Cond.fieldLink RX0 15 "BellTheCat$House" "speeds" "[I", Cond.methodLink RX0 70 yX0_hasStep, Cond.instanceMethod yX0_hasStep, Cond.selects RX0 yX0_hasStep yX0_hasStep, Cond.code yX0_hasStep cX0_hasStep 2 (some .boolean), Cond.methodLink RX0 64 yX0_hasMouse, Cond.instanceMethod yX0_hasMouse, Cond.selects RX0 yX0_hasMouse yX0_hasMouse, Cond.code yX0_hasMouse cX0_hasMouse 2 (some .boolean), Cond.fieldLink RX0 40 "BellTheCat$House" "miceCount" "I", Cond.static yX7_dangerOf, Cond.initialized RX7, Cond.code yX7_dangerOf cX7_dangerOf 4 (some .int), Cond.methodLink RX7 317 Lib.Math.max.name, Cond.static Lib.Math.max.name]
def wsX0_aloneAbove_r2 : List Cond := [Cond.initialized "java/lang/Math", Cond.code Lib.Math.max.name Lib.Math.max.code 2 (some .int), Cond.methodLink RX7 272 Lib.Math.min.name, Cond.static Lib.Math.min.name, Cond.code Lib.Math.min.name Lib.Math.min.code 2 (some .int)]
def wsX0_aloneAbove : List Cond := .code yX0_aloneAbove cX0_aloneAbove 7 (some .long) :: ((wsX0_aloneAbove_r1 ++ wsX0_aloneAbove_r2) ++ wsX00)
def wsX0_dreadAbove_r1 : List Cond := [Cond.methodLink RX0 83 yX0_fearOf, Cond.instanceMethod yX0_fearOf, Cond.selects RX0 yX0_fearOf yX0_fearOf, Cond.initialized RX0, Cond.code yX0_fearOf cX0_fearOf 2 (some .int), Cond.fieldLink RX0 18 "BellTheCat$House" "fears" "[I", Cond.methodLink RX0 64 yX0_hasMouse, Cond.instanceMethod yX0_hasMouse, Cond.selects RX0 yX0_hasMouse yX0_hasMouse, Cond.code yX0_hasMouse cX0_hasMouse 2 (some .boolean), Cond.fieldLink RX0 40 "BellTheCat$House" "miceCount" "I", Cond.methodLink RX0 87 yX0_aloneAbove, Cond.instanceMethod yX0_aloneAbove, Cond.selects RX0 yX0_aloneAbove yX0_aloneAbove, Cond.code yX0_aloneAbove cX0_aloneAbove 7 (some .long), Cond.fieldLink RX0 43 "BellTheCat$House" "stepCount" "I", Cond.constantLong RX0 77 (10), Cond.methodLink RX0 79 yX0_dangerAt, Cond.instanceMethod yX0_dangerAt, Cond.selects RX0 yX0_dangerAt yX0_dangerAt, Cond.code yX0_dangerAt cX0_dangerAt 3 (some .int), Cond.fieldLink RX0 24 "BellTheCat$House" "noises" "[I", Cond.fieldLink RX0 9 "BellTheCat$House" "kinds" "[I", Cond.fieldLink RX0 15 "BellTheCat$House" "speeds" "[I"]
def wsX0_dreadAbove_r2 : List Cond := [Cond.methodLink RX0 70 yX0_hasStep, Cond.instanceMethod yX0_hasStep, Cond.selects RX0 yX0_hasStep yX0_hasStep, Cond.code yX0_hasStep cX0_hasStep 2 (some .boolean), Cond.static yX7_dangerOf, Cond.initialized RX7, Cond.code yX7_dangerOf cX7_dangerOf 4 (some .int), Cond.methodLink RX7 317 Lib.Math.max.name, Cond.static Lib.Math.max.name, Cond.initialized "java/lang/Math", Cond.code Lib.Math.max.name Lib.Math.max.code 2 (some .int), Cond.methodLink RX7 272 Lib.Math.min.name, Cond.static Lib.Math.min.name, Cond.code Lib.Math.min.name Lib.Math.min.code 2 (some .int)]
def wsX0_dreadAbove : List Cond := .code yX0_dreadAbove cX0_dreadAbove 2 (some .long) :: ((wsX0_dreadAbove_r1 ++ wsX0_dreadAbove_r2) ++ wsX00)
def wsX1_init : List Cond := .code yX1_init cX1_init 1 none :: ([.methodLink RX1 3 objectInit, .instanceMethod objectInit, .code objectInit ⟨#[0xb1]⟩ 1 none])
def wsX7_power : List Cond := .code yX7_power cX7_power 5 (some .long) :: ([])
def wsX7_tenTo : List Cond := .code yX7_tenTo cX7_tenTo 1 (some .long) :: ([.methodLink RX7 281 yX7_power, .static yX7_power, .initialized RX7, .code yX7_power cX7_power 5 (some .long)])
def wsX1_weigh_r1 : List Cond := [Cond.fieldLink RX1 9 "BellTheCat$Offers" "living" "I", Cond.fieldLink RX1 15 "BellTheCat$Offers" "glad" "I", Cond.fieldLink RX1 18 "BellTheCat$Offers" "loath" "I", Cond.fieldLink RX1 21 "BellTheCat$Offers" "gladAlone" "I", Cond.fieldLink RX1 24 "BellTheCat$Offers" "tempted" "I", Cond.fieldLink RX1 27 "BellTheCat$House" "stepCount" "I", Cond.fieldLink RX1 36 "BellTheCat$House" "gain" "I", Cond.fieldLink RX1 39 "BellTheCat$House" "miceCount" "I", Cond.static yX7_tenTo, Cond.initialized RX7, Cond.code yX7_tenTo cX7_tenTo 1 (some .long), Cond.methodLink RX7 281 yX7_power, Cond.static yX7_power, Cond.code yX7_power cX7_power 5 (some .long), Cond.methodLink RX1 42 yX0_dreadAbove, Cond.instanceMethod yX0_dreadAbove, Cond.selects RX0 yX0_dreadAbove yX0_dreadAbove, Cond.initialized RX0, Cond.code yX0_dreadAbove cX0_dreadAbove 2 (some .long), Cond.methodLink RX0 83 yX0_fearOf, Cond.instanceMethod yX0_fearOf, Cond.selects RX0 yX0_fearOf yX0_fearOf, Cond.code yX0_fearOf cX0_fearOf 2 (some .int), Cond.fieldLink RX0 18 "BellTheCat$House" "fears" "[I"]
def wsX1_weigh_r2 : List Cond := [Cond.methodLink RX0 64 yX0_hasMouse, Cond.instanceMethod yX0_hasMouse, Cond.selects RX0 yX0_hasMouse yX0_hasMouse, Cond.code yX0_hasMouse cX0_hasMouse 2 (some .boolean), Cond.fieldLink RX0 40 "BellTheCat$House" "miceCount" "I", Cond.methodLink RX0 87 yX0_aloneAbove, Cond.instanceMethod yX0_aloneAbove, Cond.selects RX0 yX0_aloneAbove yX0_aloneAbove, Cond.code yX0_aloneAbove cX0_aloneAbove 7 (some .long), Cond.fieldLink RX0 43 "BellTheCat$House" "stepCount" "I", Cond.constantLong RX0 77 (10), Cond.methodLink RX0 79 yX0_dangerAt, Cond.instanceMethod yX0_dangerAt, Cond.selects RX0 yX0_dangerAt yX0_dangerAt, Cond.code yX0_dangerAt cX0_dangerAt 3 (some .int), Cond.fieldLink RX0 24 "BellTheCat$House" "noises" "[I", Cond.fieldLink RX0 9 "BellTheCat$House" "kinds" "[I", Cond.fieldLink RX0 15 "BellTheCat$House" "speeds" "[I", Cond.methodLink RX0 70 yX0_hasStep, Cond.instanceMethod yX0_hasStep, Cond.selects RX0 yX0_hasStep yX0_hasStep, Cond.code yX0_hasStep cX0_hasStep 2 (some .boolean), Cond.static yX7_dangerOf, Cond.code yX7_dangerOf cX7_dangerOf 4 (some .int)]
def wsX1_weigh_r3 : List Cond := [Cond.methodLink RX7 317 Lib.Math.max.name, Cond.static Lib.Math.max.name, Cond.initialized "java/lang/Math", Cond.code Lib.Math.max.name Lib.Math.max.code 2 (some .int), Cond.methodLink RX7 272 Lib.Math.min.name, Cond.static Lib.Math.min.name, Cond.code Lib.Math.min.name Lib.Math.min.code 2 (some .int)]
def wsX1_weigh : List Cond := .code yX1_weigh cX1_weigh 13 none :: ((wsX1_weigh_r1 ++ (wsX1_weigh_r2 ++ wsX1_weigh_r3)) ++ wsX10 ++ wsX00)
def wsJ6_bitCount_0f7a4 : List Cond := .code yJ6_bitCount_0f7a4 cJ6_bitCount_0f7a4 1 (some .int) :: ([.constant RJ6 265 (1431655765), .constant RJ6 266 (858993459), .constant RJ6 267 (252645135)])
def wsX1_isAtRest : List Cond := .code yX1_isAtRest cX1_isAtRest 4 (some .boolean) :: ([.fieldLink RX1 9 "BellTheCat$Offers" "living" "I", .fieldLink RX1 24 "BellTheCat$Offers" "tempted" "I", .fieldLink RX1 21 "BellTheCat$Offers" "gladAlone" "I", .fieldLink RX1 15 "BellTheCat$Offers" "glad" "I", .fieldLink RX1 18 "BellTheCat$Offers" "loath" "I", .methodLink RX1 45 yJ6_bitCount_0f7a4, .static yJ6_bitCount_0f7a4, .initialized RJ6, .code yJ6_bitCount_0f7a4 cJ6_bitCount_0f7a4 1 (some .int), .constant RJ6 265 (1431655765), .constant RJ6 266 (858993459), .constant RJ6 267 (252645135)] ++ wsX10)
def wsX1_howManyRest : List Cond := .code yX1_howManyRest cX1_howManyRest 3 (some .int) :: ([.methodLink RX1 51 yX1_isAtRest, .instanceMethod yX1_isAtRest, .selects RX1 yX1_isAtRest yX1_isAtRest, .initialized RX1, .code yX1_isAtRest cX1_isAtRest 4 (some .boolean), .fieldLink RX1 9 "BellTheCat$Offers" "living" "I", .fieldLink RX1 24 "BellTheCat$Offers" "tempted" "I", .fieldLink RX1 21 "BellTheCat$Offers" "gladAlone" "I", .fieldLink RX1 15 "BellTheCat$Offers" "glad" "I", .fieldLink RX1 18 "BellTheCat$Offers" "loath" "I", .methodLink RX1 45 yJ6_bitCount_0f7a4, .static yJ6_bitCount_0f7a4, .initialized RJ6, .code yJ6_bitCount_0f7a4 cJ6_bitCount_0f7a4 1 (some .int), .constant RJ6 265 (1431655765), .constant RJ6 266 (858993459), .constant RJ6 267 (252645135)] ++ wsX10)
def wsX1_leastAtRest : List Cond := .code yX1_leastAtRest cX1_leastAtRest 2 (some .int) :: ([.methodLink RX1 51 yX1_isAtRest, .instanceMethod yX1_isAtRest, .selects RX1 yX1_isAtRest yX1_isAtRest, .initialized RX1, .code yX1_isAtRest cX1_isAtRest 4 (some .boolean), .fieldLink RX1 9 "BellTheCat$Offers" "living" "I", .fieldLink RX1 24 "BellTheCat$Offers" "tempted" "I", .fieldLink RX1 21 "BellTheCat$Offers" "gladAlone" "I", .fieldLink RX1 15 "BellTheCat$Offers" "glad" "I", .fieldLink RX1 18 "BellTheCat$Offers" "loath" "I", .methodLink RX1 45 yJ6_bitCount_0f7a4, .static yJ6_bitCount_0f7a4, .initialized RJ6, .code yJ6_bitCount_0f7a4 cJ6_bitCount_0f7a4 1 (some .int), .constant RJ6 265 (1431655765), .constant RJ6 266 (858993459), .constant RJ6 267 (252645135)] ++ wsX10)
def wsX2_init : List Cond := .code yX2_init cX2_init 1 none :: ([.methodLink RX2 3 objectInit, .instanceMethod objectInit, .code objectInit ⟨#[0xb1]⟩ 1 none, .arrayClass .int, .fieldLink RX2 9 "BellTheCat$Search" "row" "[I", .fieldLink RX2 15 "BellTheCat$Search" "bestRow" "[I"] ++ wsX20)
def wsJ7_fill_53178 : List Cond := .code yJ7_fill_53178 cJ7_fill_53178 4 none :: ([])
def wsX2_takeIfBetter : List Cond := .code yX2_takeIfBetter cX2_takeIfBetter 3 none :: ([.fieldLink RX2 26 "BellTheCat$Search" "bestAbove" "J", .fieldLink RX2 9 "BellTheCat$Search" "row" "[I", .fieldLink RX2 15 "BellTheCat$Search" "bestRow" "[I", .methodLink RX2 69 arraycopyName, .native arraycopyName, .static arraycopyName, .initialized "java/lang/System"] ++ wsX20)
def wsX2_tryFrom_r1 : List Cond := [Cond.fieldLink RX2 30 "BellTheCat$House" "stepCount" "I", Cond.fieldLink RX2 26 "BellTheCat$Search" "bestAbove" "J", Cond.fieldLink RX2 62 "BellTheCat$House" "miceCount" "I", Cond.fieldLink RX2 9 "BellTheCat$Search" "row" "[I", Cond.fieldLink RX2 42 "BellTheCat$Search" "mayRepeat" "Z", Cond.methodLink RX2 50 yX0_hasStep, Cond.instanceMethod yX0_hasStep, Cond.selects RX0 yX0_hasStep yX0_hasStep, Cond.initialized RX0, Cond.code yX0_hasStep cX0_hasStep 2 (some .boolean), Cond.fieldLink RX0 43 "BellTheCat$House" "stepCount" "I", Cond.methodLink RX2 54 yX2_takeIfBetter, Cond.instanceMethod yX2_takeIfBetter, Cond.selects RX2 yX2_takeIfBetter yX2_takeIfBetter, Cond.initialized RX2, Cond.code yX2_takeIfBetter cX2_takeIfBetter 3 none, Cond.fieldLink RX2 15 "BellTheCat$Search" "bestRow" "[I", Cond.methodLink RX2 69 arraycopyName, Cond.native arraycopyName, Cond.static arraycopyName, Cond.initialized "java/lang/System", Cond.static yX7_tenTo, Cond.initialized RX7, Cond.code yX7_tenTo cX7_tenTo 1 (some .long)]
def wsX2_tryFrom_r2 : List Cond := [Cond.methodLink RX7 281 yX7_power, Cond.static yX7_power, Cond.code yX7_power cX7_power 5 (some .long), Cond.methodLink RX2 65 yX0_dangerAt, Cond.instanceMethod yX0_dangerAt, Cond.selects RX0 yX0_dangerAt yX0_dangerAt, Cond.code yX0_dangerAt cX0_dangerAt 3 (some .int), Cond.fieldLink RX0 24 "BellTheCat$House" "noises" "[I", Cond.fieldLink RX0 9 "BellTheCat$House" "kinds" "[I", Cond.fieldLink RX0 15 "BellTheCat$House" "speeds" "[I", Cond.methodLink RX0 70 yX0_hasStep, Cond.methodLink RX0 64 yX0_hasMouse, Cond.instanceMethod yX0_hasMouse, Cond.selects RX0 yX0_hasMouse yX0_hasMouse, Cond.code yX0_hasMouse cX0_hasMouse 2 (some .boolean), Cond.fieldLink RX0 40 "BellTheCat$House" "miceCount" "I", Cond.static yX7_dangerOf, Cond.code yX7_dangerOf cX7_dangerOf 4 (some .int), Cond.methodLink RX7 317 Lib.Math.max.name, Cond.static Lib.Math.max.name, Cond.initialized "java/lang/Math", Cond.code Lib.Math.max.name Lib.Math.max.code 2 (some .int), Cond.methodLink RX7 272 Lib.Math.min.name, Cond.static Lib.Math.min.name]
def wsX2_tryFrom_r3 : List Cond := [Cond.code Lib.Math.min.name Lib.Math.min.code 2 (some .int), Cond.methodLink RX2 46 yX2_tryFrom, Cond.static yX2_tryFrom]
def wsX2_tryFrom : List Cond := .code yX2_tryFrom cX2_tryFrom 8 none :: ((wsX2_tryFrom_r1 ++ (wsX2_tryFrom_r2 ++ wsX2_tryFrom_r3)) ++ wsX00 ++ wsX20)
def wsX2_run_r1 : List Cond := [Cond.fieldLink RX2 15 "BellTheCat$Search" "bestRow" "[I", Cond.constantLong RX2 24 (-1), Cond.fieldLink RX2 26 "BellTheCat$Search" "bestAbove" "J", Cond.fieldLink RX2 30 "BellTheCat$House" "stepCount" "I", Cond.fieldLink RX2 42 "BellTheCat$Search" "mayRepeat" "Z", Cond.methodLink RX2 18 yJ7_fill_53178, Cond.static yJ7_fill_53178, Cond.initialized RJ7, Cond.code yJ7_fill_53178 cJ7_fill_53178 4 none, Cond.methodLink RX2 36 yJ6_bitCount_0f7a4, Cond.static yJ6_bitCount_0f7a4, Cond.initialized RJ6, Cond.code yJ6_bitCount_0f7a4 cJ6_bitCount_0f7a4 1 (some .int), Cond.constant RJ6 265 (1431655765), Cond.constant RJ6 266 (858993459), Cond.constant RJ6 267 (252645135), Cond.methodLink RX2 46 yX2_tryFrom, Cond.static yX2_tryFrom, Cond.initialized RX2, Cond.code yX2_tryFrom cX2_tryFrom 8 none, Cond.fieldLink RX2 62 "BellTheCat$House" "miceCount" "I", Cond.fieldLink RX2 9 "BellTheCat$Search" "row" "[I", Cond.methodLink RX2 50 yX0_hasStep, Cond.instanceMethod yX0_hasStep]
def wsX2_run_r2 : List Cond := [Cond.selects RX0 yX0_hasStep yX0_hasStep, Cond.initialized RX0, Cond.code yX0_hasStep cX0_hasStep 2 (some .boolean), Cond.fieldLink RX0 43 "BellTheCat$House" "stepCount" "I", Cond.methodLink RX2 54 yX2_takeIfBetter, Cond.instanceMethod yX2_takeIfBetter, Cond.selects RX2 yX2_takeIfBetter yX2_takeIfBetter, Cond.code yX2_takeIfBetter cX2_takeIfBetter 3 none, Cond.methodLink RX2 69 arraycopyName, Cond.native arraycopyName, Cond.static arraycopyName, Cond.initialized "java/lang/System", Cond.static yX7_tenTo, Cond.initialized RX7, Cond.code yX7_tenTo cX7_tenTo 1 (some .long), Cond.methodLink RX7 281 yX7_power, Cond.static yX7_power, Cond.code yX7_power cX7_power 5 (some .long), Cond.methodLink RX2 65 yX0_dangerAt, Cond.instanceMethod yX0_dangerAt, Cond.selects RX0 yX0_dangerAt yX0_dangerAt, Cond.code yX0_dangerAt cX0_dangerAt 3 (some .int), Cond.fieldLink RX0 24 "BellTheCat$House" "noises" "[I", Cond.fieldLink RX0 9 "BellTheCat$House" "kinds" "[I"]
def wsX2_run_r3 : List Cond := [Cond.fieldLink RX0 15 "BellTheCat$House" "speeds" "[I", Cond.methodLink RX0 70 yX0_hasStep, Cond.methodLink RX0 64 yX0_hasMouse, Cond.instanceMethod yX0_hasMouse, Cond.selects RX0 yX0_hasMouse yX0_hasMouse, Cond.code yX0_hasMouse cX0_hasMouse 2 (some .boolean), Cond.fieldLink RX0 40 "BellTheCat$House" "miceCount" "I", Cond.static yX7_dangerOf, Cond.code yX7_dangerOf cX7_dangerOf 4 (some .int), Cond.methodLink RX7 317 Lib.Math.max.name, Cond.static Lib.Math.max.name, Cond.initialized "java/lang/Math", Cond.code Lib.Math.max.name Lib.Math.max.code 2 (some .int), Cond.methodLink RX7 272 Lib.Math.min.name, Cond.static Lib.Math.min.name, Cond.code Lib.Math.min.name Lib.Math.min.code 2 (some .int)]
def wsX2_run : List Cond := .code yX2_run cX2_run 3 none :: ((wsX2_run_r1 ++ (wsX2_run_r2 ++ wsX2_run_r3)) ++ wsX20 ++ wsX00)
def wsX3_init : List Cond := .code yX3_init cX3_init 1 none :: ([.methodLink RX3 3 objectInit, .instanceMethod objectInit, .code objectInit ⟨#[0xb1]⟩ 1 none, .arrayClass .int, .fieldLink RX3 9 "BellTheCat$Sightings" "places" "[I", .fieldLink RX3 15 "BellTheCat$Sightings" "victims" "[I"] ++ wsX30)
def wsX3_add : List Cond := .code yX3_add cX3_add 3 (some .boolean) :: ([.fieldLink RX3 18 "BellTheCat$Sightings" "size" "I", .fieldLink RX3 9 "BellTheCat$Sightings" "places" "[I", .fieldLink RX3 15 "BellTheCat$Sightings" "victims" "[I"] ++ wsX30)
def wsX3_isPossible : List Cond := .code yX3_isPossible cX3_isPossible 5 (some .boolean) :: ([.fieldLink RX3 18 "BellTheCat$Sightings" "size" "I", .fieldLink RX3 9 "BellTheCat$Sightings" "places" "[I", .fieldLink RX3 15 "BellTheCat$Sightings" "victims" "[I"] ++ wsX30)
def wsX3_possibleAt_r1 : List Cond := [Cond.fieldLink RX3 22 "BellTheCat$House" "miceCount" "I", Cond.methodLink RX3 27 yX0_dangerAt, Cond.instanceMethod yX0_dangerAt, Cond.selects RX0 yX0_dangerAt yX0_dangerAt, Cond.initialized RX0, Cond.code yX0_dangerAt cX0_dangerAt 3 (some .int), Cond.fieldLink RX0 24 "BellTheCat$House" "noises" "[I", Cond.fieldLink RX0 9 "BellTheCat$House" "kinds" "[I", Cond.fieldLink RX0 15 "BellTheCat$House" "speeds" "[I", Cond.methodLink RX0 70 yX0_hasStep, Cond.instanceMethod yX0_hasStep, Cond.selects RX0 yX0_hasStep yX0_hasStep, Cond.code yX0_hasStep cX0_hasStep 2 (some .boolean), Cond.fieldLink RX0 43 "BellTheCat$House" "stepCount" "I", Cond.methodLink RX0 64 yX0_hasMouse, Cond.instanceMethod yX0_hasMouse, Cond.selects RX0 yX0_hasMouse yX0_hasMouse, Cond.code yX0_hasMouse cX0_hasMouse 2 (some .boolean), Cond.fieldLink RX0 40 "BellTheCat$House" "miceCount" "I", Cond.static yX7_dangerOf, Cond.initialized RX7, Cond.code yX7_dangerOf cX7_dangerOf 4 (some .int), Cond.methodLink RX7 317 Lib.Math.max.name, Cond.static Lib.Math.max.name]
def wsX3_possibleAt_r2 : List Cond := [Cond.initialized "java/lang/Math", Cond.code Lib.Math.max.name Lib.Math.max.code 2 (some .int), Cond.methodLink RX7 272 Lib.Math.min.name, Cond.static Lib.Math.min.name, Cond.code Lib.Math.min.name Lib.Math.min.code 2 (some .int), Cond.methodLink RX3 31 yX3_isPossible, Cond.instanceMethod yX3_isPossible, Cond.selects RX3 yX3_isPossible yX3_isPossible, Cond.initialized RX3, Cond.code yX3_isPossible cX3_isPossible 5 (some .boolean), Cond.fieldLink RX3 18 "BellTheCat$Sightings" "size" "I", Cond.fieldLink RX3 9 "BellTheCat$Sightings" "places" "[I", Cond.fieldLink RX3 15 "BellTheCat$Sightings" "victims" "[I"]
def wsX3_possibleAt : List Cond := .code yX3_possibleAt cX3_possibleAt 5 (some .int) :: ((wsX3_possibleAt_r1 ++ wsX3_possibleAt_r2) ++ wsX00 ++ wsX30)
def wsX3_rowCount_r1 : List Cond := [Cond.fieldLink RX3 35 "BellTheCat$House" "stepCount" "I", Cond.methodLink RX3 38 yX3_possibleAt, Cond.instanceMethod yX3_possibleAt, Cond.selects RX3 yX3_possibleAt yX3_possibleAt, Cond.initialized RX3, Cond.code yX3_possibleAt cX3_possibleAt 5 (some .int), Cond.fieldLink RX3 22 "BellTheCat$House" "miceCount" "I", Cond.methodLink RX3 27 yX0_dangerAt, Cond.instanceMethod yX0_dangerAt, Cond.selects RX0 yX0_dangerAt yX0_dangerAt, Cond.initialized RX0, Cond.code yX0_dangerAt cX0_dangerAt 3 (some .int), Cond.fieldLink RX0 24 "BellTheCat$House" "noises" "[I", Cond.fieldLink RX0 9 "BellTheCat$House" "kinds" "[I", Cond.fieldLink RX0 15 "BellTheCat$House" "speeds" "[I", Cond.methodLink RX0 70 yX0_hasStep, Cond.instanceMethod yX0_hasStep, Cond.selects RX0 yX0_hasStep yX0_hasStep, Cond.code yX0_hasStep cX0_hasStep 2 (some .boolean), Cond.fieldLink RX0 43 "BellTheCat$House" "stepCount" "I", Cond.methodLink RX0 64 yX0_hasMouse, Cond.instanceMethod yX0_hasMouse, Cond.selects RX0 yX0_hasMouse yX0_hasMouse, Cond.code yX0_hasMouse cX0_hasMouse 2 (some .boolean)]
def wsX3_rowCount_r2 : List Cond := [Cond.fieldLink RX0 40 "BellTheCat$House" "miceCount" "I", Cond.static yX7_dangerOf, Cond.initialized RX7, Cond.code yX7_dangerOf cX7_dangerOf 4 (some .int), Cond.methodLink RX7 317 Lib.Math.max.name, Cond.static Lib.Math.max.name, Cond.initialized "java/lang/Math", Cond.code Lib.Math.max.name Lib.Math.max.code 2 (some .int), Cond.methodLink RX7 272 Lib.Math.min.name, Cond.static Lib.Math.min.name, Cond.code Lib.Math.min.name Lib.Math.min.code 2 (some .int), Cond.methodLink RX3 31 yX3_isPossible, Cond.instanceMethod yX3_isPossible, Cond.selects RX3 yX3_isPossible yX3_isPossible, Cond.code yX3_isPossible cX3_isPossible 5 (some .boolean), Cond.fieldLink RX3 18 "BellTheCat$Sightings" "size" "I", Cond.fieldLink RX3 9 "BellTheCat$Sightings" "places" "[I", Cond.fieldLink RX3 15 "BellTheCat$Sightings" "victims" "[I", Cond.methodLink RX3 42 yJ6_bitCount_0f7a4, Cond.static yJ6_bitCount_0f7a4, Cond.initialized RJ6, Cond.code yJ6_bitCount_0f7a4 cJ6_bitCount_0f7a4 1 (some .int), Cond.constant RJ6 265 (1431655765), Cond.constant RJ6 266 (858993459)]
def wsX3_rowCount_r3 : List Cond := [Cond.constant RJ6 267 (252645135)]
def wsX3_rowCount : List Cond := .code yX3_rowCount cX3_rowCount 4 (some .int) :: ((wsX3_rowCount_r1 ++ (wsX3_rowCount_r2 ++ wsX3_rowCount_r3)) ++ wsX00 ++ wsX30)
def wsX3_inAllRows_r1 : List Cond := [Cond.fieldLink RX3 35 "BellTheCat$House" "stepCount" "I", Cond.methodLink RX3 48 yX3_rowCount, Cond.instanceMethod yX3_rowCount, Cond.selects RX3 yX3_rowCount yX3_rowCount, Cond.initialized RX3, Cond.code yX3_rowCount cX3_rowCount 4 (some .int), Cond.methodLink RX3 38 yX3_possibleAt, Cond.instanceMethod yX3_possibleAt, Cond.selects RX3 yX3_possibleAt yX3_possibleAt, Cond.code yX3_possibleAt cX3_possibleAt 5 (some .int), Cond.fieldLink RX3 22 "BellTheCat$House" "miceCount" "I", Cond.methodLink RX3 27 yX0_dangerAt, Cond.instanceMethod yX0_dangerAt, Cond.selects RX0 yX0_dangerAt yX0_dangerAt, Cond.initialized RX0, Cond.code yX0_dangerAt cX0_dangerAt 3 (some .int), Cond.fieldLink RX0 24 "BellTheCat$House" "noises" "[I", Cond.fieldLink RX0 9 "BellTheCat$House" "kinds" "[I", Cond.fieldLink RX0 15 "BellTheCat$House" "speeds" "[I", Cond.methodLink RX0 70 yX0_hasStep, Cond.instanceMethod yX0_hasStep, Cond.selects RX0 yX0_hasStep yX0_hasStep, Cond.code yX0_hasStep cX0_hasStep 2 (some .boolean), Cond.fieldLink RX0 43 "BellTheCat$House" "stepCount" "I"]
def wsX3_inAllRows_r2 : List Cond := [Cond.methodLink RX0 64 yX0_hasMouse, Cond.instanceMethod yX0_hasMouse, Cond.selects RX0 yX0_hasMouse yX0_hasMouse, Cond.code yX0_hasMouse cX0_hasMouse 2 (some .boolean), Cond.fieldLink RX0 40 "BellTheCat$House" "miceCount" "I", Cond.static yX7_dangerOf, Cond.initialized RX7, Cond.code yX7_dangerOf cX7_dangerOf 4 (some .int), Cond.methodLink RX7 317 Lib.Math.max.name, Cond.static Lib.Math.max.name, Cond.initialized "java/lang/Math", Cond.code Lib.Math.max.name Lib.Math.max.code 2 (some .int), Cond.methodLink RX7 272 Lib.Math.min.name, Cond.static Lib.Math.min.name, Cond.code Lib.Math.min.name Lib.Math.min.code 2 (some .int), Cond.methodLink RX3 31 yX3_isPossible, Cond.instanceMethod yX3_isPossible, Cond.selects RX3 yX3_isPossible yX3_isPossible, Cond.code yX3_isPossible cX3_isPossible 5 (some .boolean), Cond.fieldLink RX3 18 "BellTheCat$Sightings" "size" "I", Cond.fieldLink RX3 9 "BellTheCat$Sightings" "places" "[I", Cond.fieldLink RX3 15 "BellTheCat$Sightings" "victims" "[I", Cond.methodLink RX3 42 yJ6_bitCount_0f7a4, Cond.static yJ6_bitCount_0f7a4]
def wsX3_inAllRows_r3 : List Cond := [Cond.initialized RJ6, Cond.code yJ6_bitCount_0f7a4 cJ6_bitCount_0f7a4 1 (some .int), Cond.constant RJ6 265 (1431655765), Cond.constant RJ6 266 (858993459), Cond.constant RJ6 267 (252645135)]
def wsX3_inAllRows : List Cond := .code yX3_inAllRows cX3_inAllRows 5 (some .int) :: ((wsX3_inAllRows_r1 ++ (wsX3_inAllRows_r2 ++ wsX3_inAllRows_r3)) ++ wsX00 ++ wsX30)
def wsX4_init : List Cond := .code yX4_init cX4_init 1 none :: ([.methodLink RX4 3 objectInit, .instanceMethod objectInit, .code objectInit ⟨#[0xb1]⟩ 1 none, .arrayClass .int, .fieldLink RX4 9 "BellTheCat$Team" "doers" "[I", .methodLink RX4 15 yJ7_fill_53178, .static yJ7_fill_53178, .initialized RJ7, .code yJ7_fill_53178 cJ7_fill_53178 4 none] ++ wsX40)
def wsX4_dismiss : List Cond := .code yX4_dismiss cX4_dismiss 1 none :: ([.fieldLink RX4 9 "BellTheCat$Team" "doers" "[I", .methodLink RX4 15 yJ7_fill_53178, .static yJ7_fill_53178, .initialized RJ7, .code yJ7_fill_53178 cJ7_fill_53178 4 none] ++ wsX40)
def wsX4_begin : List Cond := .code yX4_begin cX4_begin 2 none :: ([.fieldLink RX4 24 "BellTheCat$Team" "nights" "I", .fieldLink RX4 28 "BellTheCat$Team" "living" "I", .fieldLink RX4 31 "BellTheCat$Team" "belled" "Z", .methodLink RX4 21 yX4_dismiss, .instanceMethod yX4_dismiss, .selects RX4 yX4_dismiss yX4_dismiss, .initialized RX4, .code yX4_dismiss cX4_dismiss 1 none, .fieldLink RX4 9 "BellTheCat$Team" "doers" "[I", .methodLink RX4 15 yJ7_fill_53178, .static yJ7_fill_53178, .initialized RJ7, .code yJ7_fill_53178 cJ7_fill_53178 4 none] ++ wsX40)
def wsX4_lives : List Cond := .code yX4_lives cX4_lives 2 (some .boolean) :: ([.fieldLink RX4 28 "BellTheCat$Team" "living" "I"] ++ wsX40)
def wsX4_doerOf : List Cond := .code yX4_doerOf cX4_doerOf 2 (some .int) :: ([.fieldLink RX4 9 "BellTheCat$Team" "doers" "[I"] ++ wsX40)
def wsX4_setDoer : List Cond := .code yX4_setDoer cX4_setDoer 3 none :: ([.fieldLink RX4 9 "BellTheCat$Team" "doers" "[I"] ++ wsX40)
def wsX4_lose : List Cond := .code yX4_lose cX4_lose 3 none :: ([.fieldLink RX4 28 "BellTheCat$Team" "living" "I", .fieldLink RX4 9 "BellTheCat$Team" "doers" "[I", .methodLink RX4 35 yX4_lives, .instanceMethod yX4_lives, .selects RX4 yX4_lives yX4_lives, .initialized RX4, .code yX4_lives cX4_lives 2 (some .boolean)] ++ wsX40)
def wsX4_filledSteps : List Cond := .code yX4_filledSteps cX4_filledSteps 3 (some .int) :: ([.fieldLink RX4 9 "BellTheCat$Team" "doers" "[I"] ++ wsX40)
def wsX4_stepsOf : List Cond := .code yX4_stepsOf cX4_stepsOf 4 (some .int) :: ([.fieldLink RX4 9 "BellTheCat$Team" "doers" "[I"] ++ wsX40)
def wsX4_isWhole : List Cond := .code yX4_isWhole cX4_isWhole 3 (some .boolean) :: ([.methodLink RX4 39 yX4_doerOf, .instanceMethod yX4_doerOf, .selects RX4 yX4_doerOf yX4_doerOf, .initialized RX4, .code yX4_doerOf cX4_doerOf 2 (some .int), .fieldLink RX4 9 "BellTheCat$Team" "doers" "[I", .methodLink RX4 35 yX4_lives, .instanceMethod yX4_lives, .selects RX4 yX4_lives yX4_lives, .code yX4_lives cX4_lives 2 (some .boolean), .fieldLink RX4 28 "BellTheCat$Team" "living" "I"] ++ wsX40)
def wsX5_init : List Cond := .code yX5_init cX5_init 1 none :: ([.methodLink RX5 3 objectInit, .instanceMethod objectInit, .code objectInit ⟨#[0xb1]⟩ 1 none, .arrayClass .int, .fieldLink RX5 9 "BellTheCat$Text" "letters" "[I", .fieldLink RX5 15 "BellTheCat$Text" "numbers" "[I"] ++ wsX50)
def wsX5_append : List Cond := .code yX5_append cX5_append 2 (some .boolean) :: ([.fieldLink RX5 18 "BellTheCat$Text" "length" "I", .fieldLink RX5 9 "BellTheCat$Text" "letters" "[I"] ++ wsX50)
def wsX5_letterAt : List Cond := .code yX5_letterAt cX5_letterAt 2 (some .int) :: ([.fieldLink RX5 18 "BellTheCat$Text" "length" "I", .fieldLink RX5 9 "BellTheCat$Text" "letters" "[I"] ++ wsX50)
def wsX5_endOfBlanks : List Cond := .code yX5_endOfBlanks cX5_endOfBlanks 3 (some .int) :: ([.fieldLink RX5 18 "BellTheCat$Text" "length" "I", .methodLink RX5 38 yX5_letterAt, .instanceMethod yX5_letterAt, .selects RX5 yX5_letterAt yX5_letterAt, .initialized RX5, .code yX5_letterAt cX5_letterAt 2 (some .int), .fieldLink RX5 9 "BellTheCat$Text" "letters" "[I"] ++ wsX50)
def wsX5_isSmall : List Cond := .code yX5_isSmall cX5_isSmall 1 (some .boolean) :: ([])
def wsX5_endOfWord : List Cond := .code yX5_endOfWord cX5_endOfWord 3 (some .int) :: ([.fieldLink RX5 18 "BellTheCat$Text" "length" "I", .methodLink RX5 38 yX5_letterAt, .instanceMethod yX5_letterAt, .selects RX5 yX5_letterAt yX5_letterAt, .initialized RX5, .code yX5_letterAt cX5_letterAt 2 (some .int), .fieldLink RX5 9 "BellTheCat$Text" "letters" "[I", .methodLink RX5 75 yX5_isSmall, .static yX5_isSmall, .code yX5_isSmall cX5_isSmall 1 (some .boolean)] ++ wsX50)
def wsX5_isDigit : List Cond := .code yX5_isDigit cX5_isDigit 1 (some .boolean) :: ([])
def wsX5_endOfNumber : List Cond := .code yX5_endOfNumber cX5_endOfNumber 3 (some .int) :: ([.fieldLink RX5 18 "BellTheCat$Text" "length" "I", .methodLink RX5 38 yX5_letterAt, .instanceMethod yX5_letterAt, .selects RX5 yX5_letterAt yX5_letterAt, .initialized RX5, .code yX5_letterAt cX5_letterAt 2 (some .int), .fieldLink RX5 9 "BellTheCat$Text" "letters" "[I", .methodLink RX5 81 yX5_isDigit, .static yX5_isDigit, .code yX5_isDigit cX5_isDigit 1 (some .boolean)] ++ wsX50)
def wsX5_nextToken_r1 : List Cond := [Cond.fieldLink RX5 22 "BellTheCat$Text" "end" "I", Cond.fieldLink RX5 32 "BellTheCat$Text" "start" "I", Cond.fieldLink RX5 18 "BellTheCat$Text" "length" "I", Cond.methodLink RX5 87 Lib.Math.min.name, Cond.static Lib.Math.min.name, Cond.initialized "java/lang/Math", Cond.code Lib.Math.min.name Lib.Math.min.code 2 (some .int), Cond.methodLink RX5 72 yX5_endOfBlanks, Cond.instanceMethod yX5_endOfBlanks, Cond.selects RX5 yX5_endOfBlanks yX5_endOfBlanks, Cond.initialized RX5, Cond.code yX5_endOfBlanks cX5_endOfBlanks 3 (some .int), Cond.methodLink RX5 38 yX5_letterAt, Cond.instanceMethod yX5_letterAt, Cond.selects RX5 yX5_letterAt yX5_letterAt, Cond.code yX5_letterAt cX5_letterAt 2 (some .int), Cond.fieldLink RX5 9 "BellTheCat$Text" "letters" "[I", Cond.methodLink RX5 75 yX5_isSmall, Cond.static yX5_isSmall, Cond.code yX5_isSmall cX5_isSmall 1 (some .boolean), Cond.methodLink RX5 78 yX5_endOfWord, Cond.instanceMethod yX5_endOfWord, Cond.selects RX5 yX5_endOfWord yX5_endOfWord, Cond.code yX5_endOfWord cX5_endOfWord 3 (some .int)]
def wsX5_nextToken_r2 : List Cond := [Cond.methodLink RX5 81 yX5_isDigit, Cond.static yX5_isDigit, Cond.code yX5_isDigit cX5_isDigit 1 (some .boolean), Cond.methodLink RX5 84 yX5_endOfNumber, Cond.instanceMethod yX5_endOfNumber, Cond.selects RX5 yX5_endOfNumber yX5_endOfNumber, Cond.code yX5_endOfNumber cX5_endOfNumber 3 (some .int)]
def wsX5_nextToken : List Cond := .code yX5_nextToken cX5_nextToken 2 none :: ((wsX5_nextToken_r1 ++ wsX5_nextToken_r2) ++ wsX50)
def wsJ0_coder_7d493 : List Cond := .code yJ0_coder_7d493 cJ0_coder_7d493 1 (some .byte) :: ([.fieldLink RJ0 38 "java/lang/String" "COMPACT_STRINGS" "Z", .fieldLink RJ0 15 "java/lang/String" "coder" "B"])
def wsJ0_length_8abf5 : List Cond := .code yJ0_length_8abf5 cJ0_length_8abf5 1 (some .int) :: ([.fieldLink RJ0 9 "java/lang/String" "value" "[B", .methodLink RJ0 335 yJ0_coder_7d493, .instanceMethod yJ0_coder_7d493, .selects RJ0 yJ0_coder_7d493 yJ0_coder_7d493, .initialized RJ0, .code yJ0_coder_7d493 cJ0_coder_7d493 1 (some .byte), .fieldLink RJ0 38 "java/lang/String" "COMPACT_STRINGS" "Z", .fieldLink RJ0 15 "java/lang/String" "coder" "B"])
def wsJ0_isLatin1_aae02 : List Cond := .code yJ0_isLatin1_aae02 cJ0_isLatin1_aae02 1 (some .boolean) :: ([.fieldLink RJ0 38 "java/lang/String" "COMPACT_STRINGS" "Z", .fieldLink RJ0 15 "java/lang/String" "coder" "B"])
def wsJ3_checkIndex_8e157 : List Cond := .code yJ3_checkIndex_8e157 cJ3_checkIndex_8e157 3 (some .int) :: ([])
def wsJ0_checkIndex_df160 : List Cond := .code yJ0_checkIndex_df160 cJ0_checkIndex_df160 2 none :: ([.fieldLink RJ0 1053 "jdk/internal/util/Preconditions" "SIOOBE_FORMATTER" "Ljava/util/function/BiFunction;", .methodLink RJ0 1059 yJ3_checkIndex_8e157, .static yJ3_checkIndex_8e157, .initialized RJ3, .code yJ3_checkIndex_8e157 cJ3_checkIndex_8e157 3 (some .int)])
def wsJ1_charAt_3b067 : List Cond := .code yJ1_charAt_3b067 cJ1_charAt_3b067 2 (some .char) :: ([.methodLink RJ1 9 yJ0_checkIndex_df160, .static yJ0_checkIndex_df160, .initialized RJ0, .code yJ0_checkIndex_df160 cJ0_checkIndex_df160 2 none, .fieldLink RJ0 1053 "jdk/internal/util/Preconditions" "SIOOBE_FORMATTER" "Ljava/util/function/BiFunction;", .methodLink RJ0 1059 yJ3_checkIndex_8e157, .static yJ3_checkIndex_8e157, .initialized RJ3, .code yJ3_checkIndex_8e157 cJ3_checkIndex_8e157 3 (some .int)])
def wsJ2_length_9d52b : List Cond := .code yJ2_length_9d52b cJ2_length_9d52b 1 (some .int) :: ([])
def wsJ2_checkIndex_2214a : List Cond := .code yJ2_checkIndex_2214a cJ2_checkIndex_2214a 2 none :: ([.methodLink RJ2 48 yJ2_length_9d52b, .static yJ2_length_9d52b, .initialized RJ2, .code yJ2_length_9d52b cJ2_length_9d52b 1 (some .int), .methodLink RJ2 414 yJ0_checkIndex_df160, .static yJ0_checkIndex_df160, .initialized RJ0, .code yJ0_checkIndex_df160 cJ0_checkIndex_df160 2 none, .fieldLink RJ0 1053 "jdk/internal/util/Preconditions" "SIOOBE_FORMATTER" "Ljava/util/function/BiFunction;", .methodLink RJ0 1059 yJ3_checkIndex_8e157, .static yJ3_checkIndex_8e157, .initialized RJ3, .code yJ3_checkIndex_8e157 cJ3_checkIndex_8e157 3 (some .int)])
def wsJ2_getChar_3b067 : List Cond := .code yJ2_getChar_3b067 cJ2_getChar_3b067 2 (some .char) :: ([.fieldLink RJ2 44 "java/lang/StringUTF16" "$assertionsDisabled" "Z", .fieldLink RJ2 59 "java/lang/StringUTF16" "HI_BYTE_SHIFT" "I", .fieldLink RJ2 63 "java/lang/StringUTF16" "LO_BYTE_SHIFT" "I", .methodLink RJ2 48 yJ2_length_9d52b, .static yJ2_length_9d52b, .initialized RJ2, .code yJ2_length_9d52b cJ2_length_9d52b 1 (some .int)])
def wsJ2_charAt_3b067 : List Cond := .code yJ2_charAt_3b067 cJ2_charAt_3b067 2 (some .char) :: ([.methodLink RJ2 67 yJ2_checkIndex_2214a, .static yJ2_checkIndex_2214a, .initialized RJ2, .code yJ2_checkIndex_2214a cJ2_checkIndex_2214a 2 none, .methodLink RJ2 48 yJ2_length_9d52b, .static yJ2_length_9d52b, .code yJ2_length_9d52b cJ2_length_9d52b 1 (some .int), .methodLink RJ2 414 yJ0_checkIndex_df160, .static yJ0_checkIndex_df160, .initialized RJ0, .code yJ0_checkIndex_df160 cJ0_checkIndex_df160 2 none, .fieldLink RJ0 1053 "jdk/internal/util/Preconditions" "SIOOBE_FORMATTER" "Ljava/util/function/BiFunction;", .methodLink RJ0 1059 yJ3_checkIndex_8e157, .static yJ3_checkIndex_8e157, .initialized RJ3, .code yJ3_checkIndex_8e157 cJ3_checkIndex_8e157 3 (some .int), .methodLink RJ2 71 yJ2_getChar_3b067, .static yJ2_getChar_3b067, .code yJ2_getChar_3b067 cJ2_getChar_3b067 2 (some .char), .fieldLink RJ2 44 "java/lang/StringUTF16" "$assertionsDisabled" "Z", .fieldLink RJ2 59 "java/lang/StringUTF16" "HI_BYTE_SHIFT" "I", .fieldLink RJ2 63 "java/lang/StringUTF16" "LO_BYTE_SHIFT" "I"])
def wsJ0_charAt_5068e_r1 : List Cond := [Cond.fieldLink RJ0 9 "java/lang/String" "value" "[B", Cond.methodLink RJ0 492 yJ0_isLatin1_aae02, Cond.instanceMethod yJ0_isLatin1_aae02, Cond.selects RJ0 yJ0_isLatin1_aae02 yJ0_isLatin1_aae02, Cond.initialized RJ0, Cond.code yJ0_isLatin1_aae02 cJ0_isLatin1_aae02 1 (some .boolean), Cond.fieldLink RJ0 38 "java/lang/String" "COMPACT_STRINGS" "Z", Cond.fieldLink RJ0 15 "java/lang/String" "coder" "B", Cond.methodLink RJ0 495 yJ1_charAt_3b067, Cond.static yJ1_charAt_3b067, Cond.initialized RJ1, Cond.code yJ1_charAt_3b067 cJ1_charAt_3b067 2 (some .char), Cond.methodLink RJ1 9 yJ0_checkIndex_df160, Cond.static yJ0_checkIndex_df160, Cond.code yJ0_checkIndex_df160 cJ0_checkIndex_df160 2 none, Cond.fieldLink RJ0 1053 "jdk/internal/util/Preconditions" "SIOOBE_FORMATTER" "Ljava/util/function/BiFunction;", Cond.methodLink RJ0 1059 yJ3_checkIndex_8e157, Cond.static yJ3_checkIndex_8e157, Cond.initialized RJ3, Cond.code yJ3_checkIndex_8e157 cJ3_checkIndex_8e157 3 (some .int), Cond.methodLink RJ0 498 yJ2_charAt_3b067, Cond.static yJ2_charAt_3b067, Cond.initialized RJ2, Cond.code yJ2_charAt_3b067 cJ2_charAt_3b067 2 (some .char)]
def wsJ0_charAt_5068e_r2 : List Cond := [Cond.methodLink RJ2 67 yJ2_checkIndex_2214a, Cond.static yJ2_checkIndex_2214a, Cond.code yJ2_checkIndex_2214a cJ2_checkIndex_2214a 2 none, Cond.methodLink RJ2 48 yJ2_length_9d52b, Cond.static yJ2_length_9d52b, Cond.code yJ2_length_9d52b cJ2_length_9d52b 1 (some .int), Cond.methodLink RJ2 414 yJ0_checkIndex_df160, Cond.methodLink RJ2 71 yJ2_getChar_3b067, Cond.static yJ2_getChar_3b067, Cond.code yJ2_getChar_3b067 cJ2_getChar_3b067 2 (some .char), Cond.fieldLink RJ2 44 "java/lang/StringUTF16" "$assertionsDisabled" "Z", Cond.fieldLink RJ2 59 "java/lang/StringUTF16" "HI_BYTE_SHIFT" "I", Cond.fieldLink RJ2 63 "java/lang/StringUTF16" "LO_BYTE_SHIFT" "I"]
def wsJ0_charAt_5068e : List Cond := .code yJ0_charAt_5068e cJ0_charAt_5068e 2 (some .char) :: ((wsJ0_charAt_5068e_r1 ++ wsJ0_charAt_5068e_r2))
def wsX5_isHere_r1 : List Cond := [Cond.fieldLink RX5 22 "BellTheCat$Text" "end" "I", Cond.fieldLink RX5 32 "BellTheCat$Text" "start" "I", Cond.methodLink RX5 114 yJ0_length_8abf5, Cond.instanceMethod yJ0_length_8abf5, Cond.selects RJ0 yJ0_length_8abf5 yJ0_length_8abf5, Cond.initialized RJ0, Cond.code yJ0_length_8abf5 cJ0_length_8abf5 1 (some .int), Cond.fieldLink RJ0 9 "java/lang/String" "value" "[B", Cond.methodLink RJ0 335 yJ0_coder_7d493, Cond.instanceMethod yJ0_coder_7d493, Cond.selects RJ0 yJ0_coder_7d493 yJ0_coder_7d493, Cond.code yJ0_coder_7d493 cJ0_coder_7d493 1 (some .byte), Cond.fieldLink RJ0 38 "java/lang/String" "COMPACT_STRINGS" "Z", Cond.fieldLink RJ0 15 "java/lang/String" "coder" "B", Cond.methodLink RX5 38 yX5_letterAt, Cond.instanceMethod yX5_letterAt, Cond.selects RX5 yX5_letterAt yX5_letterAt, Cond.initialized RX5, Cond.code yX5_letterAt cX5_letterAt 2 (some .int), Cond.fieldLink RX5 18 "BellTheCat$Text" "length" "I", Cond.fieldLink RX5 9 "BellTheCat$Text" "letters" "[I", Cond.methodLink RX5 118 yJ0_charAt_5068e, Cond.instanceMethod yJ0_charAt_5068e, Cond.selects RJ0 yJ0_charAt_5068e yJ0_charAt_5068e]
def wsX5_isHere_r2 : List Cond := [Cond.code yJ0_charAt_5068e cJ0_charAt_5068e 2 (some .char), Cond.methodLink RJ0 492 yJ0_isLatin1_aae02, Cond.instanceMethod yJ0_isLatin1_aae02, Cond.selects RJ0 yJ0_isLatin1_aae02 yJ0_isLatin1_aae02, Cond.code yJ0_isLatin1_aae02 cJ0_isLatin1_aae02 1 (some .boolean), Cond.methodLink RJ0 495 yJ1_charAt_3b067, Cond.static yJ1_charAt_3b067, Cond.initialized RJ1, Cond.code yJ1_charAt_3b067 cJ1_charAt_3b067 2 (some .char), Cond.methodLink RJ1 9 yJ0_checkIndex_df160, Cond.static yJ0_checkIndex_df160, Cond.code yJ0_checkIndex_df160 cJ0_checkIndex_df160 2 none, Cond.fieldLink RJ0 1053 "jdk/internal/util/Preconditions" "SIOOBE_FORMATTER" "Ljava/util/function/BiFunction;", Cond.methodLink RJ0 1059 yJ3_checkIndex_8e157, Cond.static yJ3_checkIndex_8e157, Cond.initialized RJ3, Cond.code yJ3_checkIndex_8e157 cJ3_checkIndex_8e157 3 (some .int), Cond.methodLink RJ0 498 yJ2_charAt_3b067, Cond.static yJ2_charAt_3b067, Cond.initialized RJ2, Cond.code yJ2_charAt_3b067 cJ2_charAt_3b067 2 (some .char), Cond.methodLink RJ2 67 yJ2_checkIndex_2214a, Cond.static yJ2_checkIndex_2214a, Cond.code yJ2_checkIndex_2214a cJ2_checkIndex_2214a 2 none]
def wsX5_isHere_r3 : List Cond := [Cond.methodLink RJ2 48 yJ2_length_9d52b, Cond.static yJ2_length_9d52b, Cond.code yJ2_length_9d52b cJ2_length_9d52b 1 (some .int), Cond.methodLink RJ2 414 yJ0_checkIndex_df160, Cond.methodLink RJ2 71 yJ2_getChar_3b067, Cond.static yJ2_getChar_3b067, Cond.code yJ2_getChar_3b067 cJ2_getChar_3b067 2 (some .char), Cond.fieldLink RJ2 44 "java/lang/StringUTF16" "$assertionsDisabled" "Z", Cond.fieldLink RJ2 59 "java/lang/StringUTF16" "HI_BYTE_SHIFT" "I", Cond.fieldLink RJ2 63 "java/lang/StringUTF16" "LO_BYTE_SHIFT" "I"]
def wsX5_isHere : List Cond := .code yX5_isHere cX5_isHere 3 (some .boolean) :: ((wsX5_isHere_r1 ++ (wsX5_isHere_r2 ++ wsX5_isHere_r3)) ++ wsX50)
def wsX5_wordHere_r1 : List Cond := [Cond.fieldLink RX5 32 "BellTheCat$Text" "start" "I", Cond.methodLink RX5 38 yX5_letterAt, Cond.instanceMethod yX5_letterAt, Cond.selects RX5 yX5_letterAt yX5_letterAt, Cond.initialized RX5, Cond.code yX5_letterAt cX5_letterAt 2 (some .int), Cond.fieldLink RX5 18 "BellTheCat$Text" "length" "I", Cond.fieldLink RX5 9 "BellTheCat$Text" "letters" "[I", Cond.methodLink RX5 94 yX5_isHere, Cond.instanceMethod yX5_isHere, Cond.selects RX5 yX5_isHere yX5_isHere, Cond.code yX5_isHere cX5_isHere 3 (some .boolean), Cond.fieldLink RX5 22 "BellTheCat$Text" "end" "I", Cond.methodLink RX5 114 yJ0_length_8abf5, Cond.instanceMethod yJ0_length_8abf5, Cond.selects RJ0 yJ0_length_8abf5 yJ0_length_8abf5, Cond.initialized RJ0, Cond.code yJ0_length_8abf5 cJ0_length_8abf5 1 (some .int), Cond.fieldLink RJ0 9 "java/lang/String" "value" "[B", Cond.methodLink RJ0 335 yJ0_coder_7d493, Cond.instanceMethod yJ0_coder_7d493, Cond.selects RJ0 yJ0_coder_7d493 yJ0_coder_7d493, Cond.code yJ0_coder_7d493 cJ0_coder_7d493 1 (some .byte), Cond.fieldLink RJ0 38 "java/lang/String" "COMPACT_STRINGS" "Z"]
def wsX5_wordHere_r2 : List Cond := [Cond.fieldLink RJ0 15 "java/lang/String" "coder" "B", Cond.methodLink RX5 118 yJ0_charAt_5068e, Cond.instanceMethod yJ0_charAt_5068e, Cond.selects RJ0 yJ0_charAt_5068e yJ0_charAt_5068e, Cond.code yJ0_charAt_5068e cJ0_charAt_5068e 2 (some .char), Cond.methodLink RJ0 492 yJ0_isLatin1_aae02, Cond.instanceMethod yJ0_isLatin1_aae02, Cond.selects RJ0 yJ0_isLatin1_aae02 yJ0_isLatin1_aae02, Cond.code yJ0_isLatin1_aae02 cJ0_isLatin1_aae02 1 (some .boolean), Cond.methodLink RJ0 495 yJ1_charAt_3b067, Cond.static yJ1_charAt_3b067, Cond.initialized RJ1, Cond.code yJ1_charAt_3b067 cJ1_charAt_3b067 2 (some .char), Cond.methodLink RJ1 9 yJ0_checkIndex_df160, Cond.static yJ0_checkIndex_df160, Cond.code yJ0_checkIndex_df160 cJ0_checkIndex_df160 2 none, Cond.fieldLink RJ0 1053 "jdk/internal/util/Preconditions" "SIOOBE_FORMATTER" "Ljava/util/function/BiFunction;", Cond.methodLink RJ0 1059 yJ3_checkIndex_8e157, Cond.static yJ3_checkIndex_8e157, Cond.initialized RJ3, Cond.code yJ3_checkIndex_8e157 cJ3_checkIndex_8e157 3 (some .int), Cond.methodLink RJ0 498 yJ2_charAt_3b067, Cond.static yJ2_charAt_3b067, Cond.initialized RJ2]
def wsX5_wordHere_r3 : List Cond := [Cond.code yJ2_charAt_3b067 cJ2_charAt_3b067 2 (some .char), Cond.methodLink RJ2 67 yJ2_checkIndex_2214a, Cond.static yJ2_checkIndex_2214a, Cond.code yJ2_checkIndex_2214a cJ2_checkIndex_2214a 2 none, Cond.methodLink RJ2 48 yJ2_length_9d52b, Cond.static yJ2_length_9d52b, Cond.code yJ2_length_9d52b cJ2_length_9d52b 1 (some .int), Cond.methodLink RJ2 414 yJ0_checkIndex_df160, Cond.methodLink RJ2 71 yJ2_getChar_3b067, Cond.static yJ2_getChar_3b067, Cond.code yJ2_getChar_3b067 cJ2_getChar_3b067 2 (some .char), Cond.fieldLink RJ2 44 "java/lang/StringUTF16" "$assertionsDisabled" "Z", Cond.fieldLink RJ2 59 "java/lang/StringUTF16" "HI_BYTE_SHIFT" "I", Cond.fieldLink RJ2 63 "java/lang/StringUTF16" "LO_BYTE_SHIFT" "I"]
def wsX5_wordHere : List Cond := .code yX5_wordHere cX5_wordHere 1 (some .int) :: ((wsX5_wordHere_r1 ++ (wsX5_wordHere_r2 ++ wsX5_wordHere_r3)) ++ wsX50)
def wsX5_numbersBehind : List Cond := .code yX5_numbersBehind cX5_numbersBehind 1 (some .int) :: ([])
def wsX5_numberHere : List Cond := .code yX5_numberHere cX5_numberHere 3 (some .int) :: ([.fieldLink RX5 32 "BellTheCat$Text" "start" "I", .fieldLink RX5 22 "BellTheCat$Text" "end" "I", .methodLink RX5 38 yX5_letterAt, .instanceMethod yX5_letterAt, .selects RX5 yX5_letterAt yX5_letterAt, .initialized RX5, .code yX5_letterAt cX5_letterAt 2 (some .int), .fieldLink RX5 18 "BellTheCat$Text" "length" "I", .fieldLink RX5 9 "BellTheCat$Text" "letters" "[I", .methodLink RX5 81 yX5_isDigit, .static yX5_isDigit, .code yX5_isDigit cX5_isDigit 1 (some .boolean)] ++ wsX50)
def wsX5_mostOf : List Cond := .code yX5_mostOf cX5_mostOf 2 (some .int) :: ([])
def wsX5_readClause_r1 : List Cond := [Cond.fieldLink RX5 15 "BellTheCat$Text" "numbers" "[I", Cond.methodLink RX5 42 yX5_wordHere, Cond.instanceMethod yX5_wordHere, Cond.selects RX5 yX5_wordHere yX5_wordHere, Cond.initialized RX5, Cond.code yX5_wordHere cX5_wordHere 1 (some .int), Cond.fieldLink RX5 32 "BellTheCat$Text" "start" "I", Cond.methodLink RX5 38 yX5_letterAt, Cond.instanceMethod yX5_letterAt, Cond.selects RX5 yX5_letterAt yX5_letterAt, Cond.code yX5_letterAt cX5_letterAt 2 (some .int), Cond.fieldLink RX5 18 "BellTheCat$Text" "length" "I", Cond.fieldLink RX5 9 "BellTheCat$Text" "letters" "[I", Cond.methodLink RX5 94 yX5_isHere, Cond.instanceMethod yX5_isHere, Cond.selects RX5 yX5_isHere yX5_isHere, Cond.code yX5_isHere cX5_isHere 3 (some .boolean), Cond.fieldLink RX5 22 "BellTheCat$Text" "end" "I", Cond.methodLink RX5 114 yJ0_length_8abf5, Cond.instanceMethod yJ0_length_8abf5, Cond.selects RJ0 yJ0_length_8abf5 yJ0_length_8abf5, Cond.initialized RJ0, Cond.code yJ0_length_8abf5 cJ0_length_8abf5 1 (some .int), Cond.fieldLink RJ0 9 "java/lang/String" "value" "[B"]
def wsX5_readClause_r2 : List Cond := [Cond.methodLink RJ0 335 yJ0_coder_7d493, Cond.instanceMethod yJ0_coder_7d493, Cond.selects RJ0 yJ0_coder_7d493 yJ0_coder_7d493, Cond.code yJ0_coder_7d493 cJ0_coder_7d493 1 (some .byte), Cond.fieldLink RJ0 38 "java/lang/String" "COMPACT_STRINGS" "Z", Cond.fieldLink RJ0 15 "java/lang/String" "coder" "B", Cond.methodLink RX5 118 yJ0_charAt_5068e, Cond.instanceMethod yJ0_charAt_5068e, Cond.selects RJ0 yJ0_charAt_5068e yJ0_charAt_5068e, Cond.code yJ0_charAt_5068e cJ0_charAt_5068e 2 (some .char), Cond.methodLink RJ0 492 yJ0_isLatin1_aae02, Cond.instanceMethod yJ0_isLatin1_aae02, Cond.selects RJ0 yJ0_isLatin1_aae02 yJ0_isLatin1_aae02, Cond.code yJ0_isLatin1_aae02 cJ0_isLatin1_aae02 1 (some .boolean), Cond.methodLink RJ0 495 yJ1_charAt_3b067, Cond.static yJ1_charAt_3b067, Cond.initialized RJ1, Cond.code yJ1_charAt_3b067 cJ1_charAt_3b067 2 (some .char), Cond.methodLink RJ1 9 yJ0_checkIndex_df160, Cond.static yJ0_checkIndex_df160, Cond.code yJ0_checkIndex_df160 cJ0_checkIndex_df160 2 none, Cond.fieldLink RJ0 1053 "jdk/internal/util/Preconditions" "SIOOBE_FORMATTER" "Ljava/util/function/BiFunction;", Cond.methodLink RJ0 1059 yJ3_checkIndex_8e157, Cond.static yJ3_checkIndex_8e157]
def wsX5_readClause_r3 : List Cond := [Cond.initialized RJ3, Cond.code yJ3_checkIndex_8e157 cJ3_checkIndex_8e157 3 (some .int), Cond.methodLink RJ0 498 yJ2_charAt_3b067, Cond.static yJ2_charAt_3b067, Cond.initialized RJ2, Cond.code yJ2_charAt_3b067 cJ2_charAt_3b067 2 (some .char), Cond.methodLink RJ2 67 yJ2_checkIndex_2214a, Cond.static yJ2_checkIndex_2214a, Cond.code yJ2_checkIndex_2214a cJ2_checkIndex_2214a 2 none, Cond.methodLink RJ2 48 yJ2_length_9d52b, Cond.static yJ2_length_9d52b, Cond.code yJ2_length_9d52b cJ2_length_9d52b 1 (some .int), Cond.methodLink RJ2 414 yJ0_checkIndex_df160, Cond.methodLink RJ2 71 yJ2_getChar_3b067, Cond.static yJ2_getChar_3b067, Cond.code yJ2_getChar_3b067 cJ2_getChar_3b067 2 (some .char), Cond.fieldLink RJ2 44 "java/lang/StringUTF16" "$assertionsDisabled" "Z", Cond.fieldLink RJ2 59 "java/lang/StringUTF16" "HI_BYTE_SHIFT" "I", Cond.fieldLink RJ2 63 "java/lang/StringUTF16" "LO_BYTE_SHIFT" "I", Cond.methodLink RX5 46 yX0_takes, Cond.instanceMethod yX0_takes, Cond.selects RX0 yX0_takes yX0_takes, Cond.initialized RX0, Cond.code yX0_takes cX0_takes 2 (some .boolean)]
def wsX5_readClause_r4 : List Cond := [Cond.fieldLink RX0 40 "BellTheCat$House" "miceCount" "I", Cond.fieldLink RX0 43 "BellTheCat$House" "stepCount" "I", Cond.fieldLink RX0 46 "BellTheCat$House" "ratCount" "I", Cond.methodLink RX5 25 yX5_nextToken, Cond.instanceMethod yX5_nextToken, Cond.selects RX5 yX5_nextToken yX5_nextToken, Cond.code yX5_nextToken cX5_nextToken 2 none, Cond.methodLink RX5 87 Lib.Math.min.name, Cond.static Lib.Math.min.name, Cond.initialized "java/lang/Math", Cond.code Lib.Math.min.name Lib.Math.min.code 2 (some .int), Cond.methodLink RX5 72 yX5_endOfBlanks, Cond.instanceMethod yX5_endOfBlanks, Cond.selects RX5 yX5_endOfBlanks yX5_endOfBlanks, Cond.code yX5_endOfBlanks cX5_endOfBlanks 3 (some .int), Cond.methodLink RX5 75 yX5_isSmall, Cond.static yX5_isSmall, Cond.code yX5_isSmall cX5_isSmall 1 (some .boolean), Cond.methodLink RX5 78 yX5_endOfWord, Cond.instanceMethod yX5_endOfWord, Cond.selects RX5 yX5_endOfWord yX5_endOfWord, Cond.code yX5_endOfWord cX5_endOfWord 3 (some .int), Cond.methodLink RX5 81 yX5_isDigit, Cond.static yX5_isDigit]
def wsX5_readClause_r5 : List Cond := [Cond.code yX5_isDigit cX5_isDigit 1 (some .boolean), Cond.methodLink RX5 84 yX5_endOfNumber, Cond.instanceMethod yX5_endOfNumber, Cond.selects RX5 yX5_endOfNumber yX5_endOfNumber, Cond.code yX5_endOfNumber cX5_endOfNumber 3 (some .int), Cond.methodLink RX5 52 yJ7_fill_53178, Cond.static yJ7_fill_53178, Cond.initialized RJ7, Cond.code yJ7_fill_53178 cJ7_fill_53178 4 none, Cond.methodLink RX5 58 yX5_numbersBehind, Cond.static yX5_numbersBehind, Cond.code yX5_numbersBehind cX5_numbersBehind 1 (some .int), Cond.methodLink RX5 61 yX5_numberHere, Cond.instanceMethod yX5_numberHere, Cond.selects RX5 yX5_numberHere yX5_numberHere, Cond.code yX5_numberHere cX5_numberHere 3 (some .int), Cond.methodLink RX5 64 yX5_mostOf, Cond.static yX5_mostOf, Cond.code yX5_mostOf cX5_mostOf 2 (some .int), Cond.methodLink RX5 68 yX0_apply, Cond.instanceMethod yX0_apply, Cond.selects RX0 yX0_apply yX0_apply, Cond.code yX0_apply cX0_apply 5 none, Cond.fieldLink RX0 24 "BellTheCat$House" "noises" "[I"]
def wsX5_readClause_r6 : List Cond := [Cond.fieldLink RX0 36 "BellTheCat$House" "gain" "I", Cond.methodLink RX0 49 yX0_takes, Cond.methodLink RX0 53 yX0_addRat, Cond.instanceMethod yX0_addRat, Cond.selects RX0 yX0_addRat yX0_addRat, Cond.code yX0_addRat cX0_addRat 4 none, Cond.fieldLink RX0 27 "BellTheCat$House" "prices" "[I", Cond.fieldLink RX0 30 "BellTheCat$House" "skills" "[I", Cond.fieldLink RX0 33 "BellTheCat$House" "words" "[I", Cond.methodLink RX0 57 yX0_empty, Cond.instanceMethod yX0_empty, Cond.selects RX0 yX0_empty yX0_empty, Cond.code yX0_empty cX0_empty 1 none, Cond.methodLink RX0 60 yX0_addMouse, Cond.instanceMethod yX0_addMouse, Cond.selects RX0 yX0_addMouse yX0_addMouse, Cond.code yX0_addMouse cX0_addMouse 5 none, Cond.fieldLink RX0 9 "BellTheCat$House" "kinds" "[I", Cond.fieldLink RX0 15 "BellTheCat$House" "speeds" "[I", Cond.fieldLink RX0 18 "BellTheCat$House" "fears" "[I", Cond.fieldLink RX0 21 "BellTheCat$House" "tickets" "[I"]
def wsX5_readClause : List Cond := .code yX5_readClause cX5_readClause 5 (some .boolean) :: ((wsX5_readClause_r1 ++ (wsX5_readClause_r2 ++ (wsX5_readClause_r3 ++ (wsX5_readClause_r4 ++ (wsX5_readClause_r5 ++ wsX5_readClause_r6))))) ++ wsX50 ++ wsX00)
def wsX5_readInto_r1 : List Cond := [Cond.fieldLink RX5 22 "BellTheCat$Text" "end" "I", Cond.fieldLink RX5 32 "BellTheCat$Text" "start" "I", Cond.fieldLink RX5 18 "BellTheCat$Text" "length" "I", Cond.fieldLink RX5 35 "BellTheCat$Text" "clauses" "I", Cond.methodLink RX5 25 yX5_nextToken, Cond.instanceMethod yX5_nextToken, Cond.selects RX5 yX5_nextToken yX5_nextToken, Cond.initialized RX5, Cond.code yX5_nextToken cX5_nextToken 2 none, Cond.methodLink RX5 87 Lib.Math.min.name, Cond.static Lib.Math.min.name, Cond.initialized "java/lang/Math", Cond.code Lib.Math.min.name Lib.Math.min.code 2 (some .int), Cond.methodLink RX5 72 yX5_endOfBlanks, Cond.instanceMethod yX5_endOfBlanks, Cond.selects RX5 yX5_endOfBlanks yX5_endOfBlanks, Cond.code yX5_endOfBlanks cX5_endOfBlanks 3 (some .int), Cond.methodLink RX5 38 yX5_letterAt, Cond.instanceMethod yX5_letterAt, Cond.selects RX5 yX5_letterAt yX5_letterAt, Cond.code yX5_letterAt cX5_letterAt 2 (some .int), Cond.fieldLink RX5 9 "BellTheCat$Text" "letters" "[I", Cond.methodLink RX5 75 yX5_isSmall, Cond.static yX5_isSmall]
def wsX5_readInto_r2 : List Cond := [Cond.code yX5_isSmall cX5_isSmall 1 (some .boolean), Cond.methodLink RX5 78 yX5_endOfWord, Cond.instanceMethod yX5_endOfWord, Cond.selects RX5 yX5_endOfWord yX5_endOfWord, Cond.code yX5_endOfWord cX5_endOfWord 3 (some .int), Cond.methodLink RX5 81 yX5_isDigit, Cond.static yX5_isDigit, Cond.code yX5_isDigit cX5_isDigit 1 (some .boolean), Cond.methodLink RX5 84 yX5_endOfNumber, Cond.instanceMethod yX5_endOfNumber, Cond.selects RX5 yX5_endOfNumber yX5_endOfNumber, Cond.code yX5_endOfNumber cX5_endOfNumber 3 (some .int), Cond.methodLink RX5 28 yX5_readClause, Cond.instanceMethod yX5_readClause, Cond.selects RX5 yX5_readClause yX5_readClause, Cond.code yX5_readClause cX5_readClause 5 (some .boolean), Cond.fieldLink RX5 15 "BellTheCat$Text" "numbers" "[I", Cond.methodLink RX5 42 yX5_wordHere, Cond.instanceMethod yX5_wordHere, Cond.selects RX5 yX5_wordHere yX5_wordHere, Cond.code yX5_wordHere cX5_wordHere 1 (some .int), Cond.methodLink RX5 94 yX5_isHere, Cond.instanceMethod yX5_isHere, Cond.selects RX5 yX5_isHere yX5_isHere]
def wsX5_readInto_r3 : List Cond := [Cond.code yX5_isHere cX5_isHere 3 (some .boolean), Cond.methodLink RX5 114 yJ0_length_8abf5, Cond.instanceMethod yJ0_length_8abf5, Cond.selects RJ0 yJ0_length_8abf5 yJ0_length_8abf5, Cond.initialized RJ0, Cond.code yJ0_length_8abf5 cJ0_length_8abf5 1 (some .int), Cond.fieldLink RJ0 9 "java/lang/String" "value" "[B", Cond.methodLink RJ0 335 yJ0_coder_7d493, Cond.instanceMethod yJ0_coder_7d493, Cond.selects RJ0 yJ0_coder_7d493 yJ0_coder_7d493, Cond.code yJ0_coder_7d493 cJ0_coder_7d493 1 (some .byte), Cond.fieldLink RJ0 38 "java/lang/String" "COMPACT_STRINGS" "Z", Cond.fieldLink RJ0 15 "java/lang/String" "coder" "B", Cond.methodLink RX5 118 yJ0_charAt_5068e, Cond.instanceMethod yJ0_charAt_5068e, Cond.selects RJ0 yJ0_charAt_5068e yJ0_charAt_5068e, Cond.code yJ0_charAt_5068e cJ0_charAt_5068e 2 (some .char), Cond.methodLink RJ0 492 yJ0_isLatin1_aae02, Cond.instanceMethod yJ0_isLatin1_aae02, Cond.selects RJ0 yJ0_isLatin1_aae02 yJ0_isLatin1_aae02, Cond.code yJ0_isLatin1_aae02 cJ0_isLatin1_aae02 1 (some .boolean), Cond.methodLink RJ0 495 yJ1_charAt_3b067, Cond.static yJ1_charAt_3b067, Cond.initialized RJ1]
def wsX5_readInto_r4 : List Cond := [Cond.code yJ1_charAt_3b067 cJ1_charAt_3b067 2 (some .char), Cond.methodLink RJ1 9 yJ0_checkIndex_df160, Cond.static yJ0_checkIndex_df160, Cond.code yJ0_checkIndex_df160 cJ0_checkIndex_df160 2 none, Cond.fieldLink RJ0 1053 "jdk/internal/util/Preconditions" "SIOOBE_FORMATTER" "Ljava/util/function/BiFunction;", Cond.methodLink RJ0 1059 yJ3_checkIndex_8e157, Cond.static yJ3_checkIndex_8e157, Cond.initialized RJ3, Cond.code yJ3_checkIndex_8e157 cJ3_checkIndex_8e157 3 (some .int), Cond.methodLink RJ0 498 yJ2_charAt_3b067, Cond.static yJ2_charAt_3b067, Cond.initialized RJ2, Cond.code yJ2_charAt_3b067 cJ2_charAt_3b067 2 (some .char), Cond.methodLink RJ2 67 yJ2_checkIndex_2214a, Cond.static yJ2_checkIndex_2214a, Cond.code yJ2_checkIndex_2214a cJ2_checkIndex_2214a 2 none, Cond.methodLink RJ2 48 yJ2_length_9d52b, Cond.static yJ2_length_9d52b, Cond.code yJ2_length_9d52b cJ2_length_9d52b 1 (some .int), Cond.methodLink RJ2 414 yJ0_checkIndex_df160, Cond.methodLink RJ2 71 yJ2_getChar_3b067, Cond.static yJ2_getChar_3b067, Cond.code yJ2_getChar_3b067 cJ2_getChar_3b067 2 (some .char), Cond.fieldLink RJ2 44 "java/lang/StringUTF16" "$assertionsDisabled" "Z"]
def wsX5_readInto_r5 : List Cond := [Cond.fieldLink RJ2 59 "java/lang/StringUTF16" "HI_BYTE_SHIFT" "I", Cond.fieldLink RJ2 63 "java/lang/StringUTF16" "LO_BYTE_SHIFT" "I", Cond.methodLink RX5 46 yX0_takes, Cond.instanceMethod yX0_takes, Cond.selects RX0 yX0_takes yX0_takes, Cond.initialized RX0, Cond.code yX0_takes cX0_takes 2 (some .boolean), Cond.fieldLink RX0 40 "BellTheCat$House" "miceCount" "I", Cond.fieldLink RX0 43 "BellTheCat$House" "stepCount" "I", Cond.fieldLink RX0 46 "BellTheCat$House" "ratCount" "I", Cond.methodLink RX5 52 yJ7_fill_53178, Cond.static yJ7_fill_53178, Cond.initialized RJ7, Cond.code yJ7_fill_53178 cJ7_fill_53178 4 none, Cond.methodLink RX5 58 yX5_numbersBehind, Cond.static yX5_numbersBehind, Cond.code yX5_numbersBehind cX5_numbersBehind 1 (some .int), Cond.methodLink RX5 61 yX5_numberHere, Cond.instanceMethod yX5_numberHere, Cond.selects RX5 yX5_numberHere yX5_numberHere, Cond.code yX5_numberHere cX5_numberHere 3 (some .int), Cond.methodLink RX5 64 yX5_mostOf, Cond.static yX5_mostOf, Cond.code yX5_mostOf cX5_mostOf 2 (some .int)]
def wsX5_readInto_r6 : List Cond := [Cond.methodLink RX5 68 yX0_apply, Cond.instanceMethod yX0_apply, Cond.selects RX0 yX0_apply yX0_apply, Cond.code yX0_apply cX0_apply 5 none, Cond.fieldLink RX0 24 "BellTheCat$House" "noises" "[I", Cond.fieldLink RX0 36 "BellTheCat$House" "gain" "I", Cond.methodLink RX0 49 yX0_takes, Cond.methodLink RX0 53 yX0_addRat, Cond.instanceMethod yX0_addRat, Cond.selects RX0 yX0_addRat yX0_addRat, Cond.code yX0_addRat cX0_addRat 4 none, Cond.fieldLink RX0 27 "BellTheCat$House" "prices" "[I", Cond.fieldLink RX0 30 "BellTheCat$House" "skills" "[I", Cond.fieldLink RX0 33 "BellTheCat$House" "words" "[I", Cond.methodLink RX0 57 yX0_empty, Cond.instanceMethod yX0_empty, Cond.selects RX0 yX0_empty yX0_empty, Cond.code yX0_empty cX0_empty 1 none, Cond.methodLink RX0 60 yX0_addMouse, Cond.instanceMethod yX0_addMouse, Cond.selects RX0 yX0_addMouse yX0_addMouse, Cond.code yX0_addMouse cX0_addMouse 5 none, Cond.fieldLink RX0 9 "BellTheCat$House" "kinds" "[I", Cond.fieldLink RX0 15 "BellTheCat$House" "speeds" "[I"]
def wsX5_readInto_r7 : List Cond := [Cond.fieldLink RX0 18 "BellTheCat$House" "fears" "[I", Cond.fieldLink RX0 21 "BellTheCat$House" "tickets" "[I"]
def wsX5_readInto : List Cond := .code yX5_readInto cX5_readInto 3 (some .int) :: ((wsX5_readInto_r1 ++ (wsX5_readInto_r2 ++ (wsX5_readInto_r3 ++ (wsX5_readInto_r4 ++ (wsX5_readInto_r5 ++ (wsX5_readInto_r6 ++ wsX5_readInto_r7)))))) ++ wsX50 ++ wsX00)
def wsX6_init : List Cond := .code yX6_init cX6_init 2 none :: ([.methodLink RX6 3 objectInit, .instanceMethod objectInit, .code objectInit ⟨#[0xb1]⟩ 1 none, .classLink RX6 9 RX4, .fieldLink RX6 11 "BellTheCat$Undo" "ring" "[LBellTheCat$Team;", .instantiable RX4 4, .initialized RX4, .methodLink RX6 17 yX4_init, .instanceMethod yX4_init, .code yX4_init cX4_init 1 none, .methodLink RX4 3 objectInit, .arrayClass .int, .fieldLink RX4 9 "BellTheCat$Team" "doers" "[I", .methodLink RX4 15 yJ7_fill_53178, .static yJ7_fill_53178, .initialized RJ7, .code yJ7_fill_53178 cJ7_fill_53178 4 none] ++ wsX60 ++ wsX40)
def wsX7_copyTeam : List Cond := .code yX7_copyTeam cX7_copyTeam 3 none :: ([.fieldLink RX7 184 "BellTheCat$Team" "nights" "I", .fieldLink RX7 223 "BellTheCat$Team" "living" "I", .fieldLink RX7 174 "BellTheCat$Team" "belled" "Z"] ++ wsX40)
def wsX6_remember : List Cond := .code yX6_remember cX6_remember 2 none :: ([.fieldLink RX6 11 "BellTheCat$Undo" "ring" "[LBellTheCat$Team;", .fieldLink RX6 18 "BellTheCat$Undo" "next" "I", .fieldLink RX6 26 "BellTheCat$Undo" "depth" "I", .methodLink RX6 29 Lib.Math.min.name, .static Lib.Math.min.name, .initialized "java/lang/Math", .code Lib.Math.min.name Lib.Math.min.code 2 (some .int), .static yX7_copyTeam, .initialized RX7, .code yX7_copyTeam cX7_copyTeam 3 none, .fieldLink RX7 184 "BellTheCat$Team" "nights" "I", .fieldLink RX7 223 "BellTheCat$Team" "living" "I", .fieldLink RX7 174 "BellTheCat$Team" "belled" "Z"] ++ wsX60 ++ wsX40)
def wsX6_restore : List Cond := .code yX6_restore cX6_restore 2 (some .boolean) :: ([.fieldLink RX6 26 "BellTheCat$Undo" "depth" "I", .fieldLink RX6 18 "BellTheCat$Undo" "next" "I", .fieldLink RX6 11 "BellTheCat$Undo" "ring" "[LBellTheCat$Team;", .static yX7_copyTeam, .initialized RX7, .code yX7_copyTeam cX7_copyTeam 3 none, .fieldLink RX7 184 "BellTheCat$Team" "nights" "I", .fieldLink RX7 223 "BellTheCat$Team" "living" "I", .fieldLink RX7 174 "BellTheCat$Team" "belled" "Z"] ++ wsX60 ++ wsX40)
def wsX7_init_r1 : List Cond := [Cond.methodLink RX7 1 objectInit, Cond.instanceMethod objectInit, Cond.code objectInit ⟨#[0xb1]⟩ 1 none, Cond.classLink RX7 7 RX5, Cond.instantiable RX5 6, Cond.initialized RX5, Cond.fieldLink RX7 10 "BellTheCat" "text" "LBellTheCat$Text;", Cond.classLink RX7 16 RX0, Cond.instantiable RX0 12, Cond.initialized RX0, Cond.fieldLink RX7 19 "BellTheCat" "told" "LBellTheCat$House;", Cond.fieldLink RX7 23 "BellTheCat" "draft" "LBellTheCat$House;", Cond.classLink RX7 26 RX4, Cond.instantiable RX4 4, Cond.initialized RX4, Cond.fieldLink RX7 29 "BellTheCat" "now" "LBellTheCat$Team;", Cond.classLink RX7 33 RX6, Cond.instantiable RX6 3, Cond.initialized RX6, Cond.fieldLink RX7 36 "BellTheCat" "latest" "LBellTheCat$Undo;", Cond.fieldLink RX7 40 "BellTheCat" "kept" "[LBellTheCat$Team;", Cond.arrayClass .boolean, Cond.fieldLink RX7 44 "BellTheCat" "isKept" "[Z", Cond.classLink RX7 48 RX3]
def wsX7_init_r2 : List Cond := [Cond.instantiable RX3 3, Cond.initialized RX3, Cond.fieldLink RX7 51 "BellTheCat" "sightings" "LBellTheCat$Sightings;", Cond.classLink RX7 55 RX2, Cond.instantiable RX2 4, Cond.initialized RX2, Cond.fieldLink RX7 58 "BellTheCat" "search" "LBellTheCat$Search;", Cond.classLink RX7 62 RX1, Cond.instantiable RX1 5, Cond.initialized RX1, Cond.fieldLink RX7 65 "BellTheCat" "offers" "LBellTheCat$Offers;", Cond.instanceMethod yX5_init, Cond.code yX5_init cX5_init 1 none, Cond.methodLink RX5 3 objectInit, Cond.arrayClass .int, Cond.fieldLink RX5 9 "BellTheCat$Text" "letters" "[I", Cond.fieldLink RX5 15 "BellTheCat$Text" "numbers" "[I", Cond.instanceMethod yX0_init, Cond.code yX0_init cX0_init 1 none, Cond.methodLink RX0 3 objectInit, Cond.fieldLink RX0 9 "BellTheCat$House" "kinds" "[I", Cond.fieldLink RX0 15 "BellTheCat$House" "speeds" "[I", Cond.fieldLink RX0 18 "BellTheCat$House" "fears" "[I", Cond.fieldLink RX0 21 "BellTheCat$House" "tickets" "[I"]
def wsX7_init_r3 : List Cond := [Cond.fieldLink RX0 24 "BellTheCat$House" "noises" "[I", Cond.fieldLink RX0 27 "BellTheCat$House" "prices" "[I", Cond.fieldLink RX0 30 "BellTheCat$House" "skills" "[I", Cond.fieldLink RX0 33 "BellTheCat$House" "words" "[I", Cond.fieldLink RX0 36 "BellTheCat$House" "gain" "I", Cond.methodLink RX7 28 yX4_init, Cond.instanceMethod yX4_init, Cond.code yX4_init cX4_init 1 none, Cond.methodLink RX4 3 objectInit, Cond.fieldLink RX4 9 "BellTheCat$Team" "doers" "[I", Cond.methodLink RX4 15 yJ7_fill_53178, Cond.static yJ7_fill_53178, Cond.initialized RJ7, Cond.code yJ7_fill_53178 cJ7_fill_53178 4 none, Cond.methodLink RX7 35 yX6_init, Cond.instanceMethod yX6_init, Cond.code yX6_init cX6_init 2 none, Cond.methodLink RX6 3 objectInit, Cond.classLink RX6 9 RX4, Cond.fieldLink RX6 11 "BellTheCat$Undo" "ring" "[LBellTheCat$Team;", Cond.methodLink RX6 17 yX4_init, Cond.instanceMethod yX3_init, Cond.code yX3_init cX3_init 1 none, Cond.methodLink RX3 3 objectInit]
def wsX7_init_r4 : List Cond := [Cond.fieldLink RX3 9 "BellTheCat$Sightings" "places" "[I", Cond.fieldLink RX3 15 "BellTheCat$Sightings" "victims" "[I", Cond.instanceMethod yX2_init, Cond.code yX2_init cX2_init 1 none, Cond.methodLink RX2 3 objectInit, Cond.fieldLink RX2 9 "BellTheCat$Search" "row" "[I", Cond.fieldLink RX2 15 "BellTheCat$Search" "bestRow" "[I", Cond.instanceMethod yX1_init, Cond.code yX1_init cX1_init 1 none, Cond.methodLink RX1 3 objectInit]
def wsX7_init : List Cond := .code yX7_init cX7_init 2 none :: ((wsX7_init_r1 ++ (wsX7_init_r2 ++ (wsX7_init_r3 ++ wsX7_init_r4))) ++ wsX50 ++ wsX70 ++ wsX00 ++ wsX40 ++ wsX60 ++ wsX30 ++ wsX20 ++ wsX10)
def wsX7_within : List Cond := .code yX7_within cX7_within 2 (some .boolean) :: ([])
def wsX7_write : List Cond := .code yX7_write cX7_write 2 (some .int) :: ([.fieldLink RX7 10 "BellTheCat" "text" "LBellTheCat$Text;", .fieldLink RX7 77 "BellTheCat$Text" "length" "I", .methodLink RX7 69 yX7_within, .static yX7_within, .initialized RX7, .code yX7_within cX7_within 2 (some .boolean), .methodLink RX7 73 yX5_append, .instanceMethod yX5_append, .selects RX5 yX5_append yX5_append, .initialized RX5, .code yX5_append cX5_append 2 (some .boolean), .fieldLink RX5 18 "BellTheCat$Text" "length" "I", .fieldLink RX5 9 "BellTheCat$Text" "letters" "[I"] ++ wsX70 ++ wsX50)
def wsX7_erase : List Cond := .code yX7_erase cX7_erase 2 (some .int) :: ([.fieldLink RX7 10 "BellTheCat" "text" "LBellTheCat$Text;", .fieldLink RX7 77 "BellTheCat$Text" "length" "I"] ++ wsX70 ++ wsX50)
def wsX7_readDraft_r1 : List Cond := [Cond.fieldLink RX7 23 "BellTheCat" "draft" "LBellTheCat$House;", Cond.fieldLink RX7 19 "BellTheCat" "told" "LBellTheCat$House;", Cond.fieldLink RX7 10 "BellTheCat" "text" "LBellTheCat$Text;", Cond.methodLink RX7 85 yX0_copyFrom, Cond.instanceMethod yX0_copyFrom, Cond.selects RX0 yX0_copyFrom yX0_copyFrom, Cond.initialized RX0, Cond.code yX0_copyFrom cX0_copyFrom 3 none, Cond.fieldLink RX0 9 "BellTheCat$House" "kinds" "[I", Cond.fieldLink RX0 15 "BellTheCat$House" "speeds" "[I", Cond.fieldLink RX0 18 "BellTheCat$House" "fears" "[I", Cond.fieldLink RX0 21 "BellTheCat$House" "tickets" "[I", Cond.fieldLink RX0 24 "BellTheCat$House" "noises" "[I", Cond.fieldLink RX0 27 "BellTheCat$House" "prices" "[I", Cond.fieldLink RX0 30 "BellTheCat$House" "skills" "[I", Cond.fieldLink RX0 33 "BellTheCat$House" "words" "[I", Cond.fieldLink RX0 40 "BellTheCat$House" "miceCount" "I", Cond.fieldLink RX0 43 "BellTheCat$House" "stepCount" "I", Cond.fieldLink RX0 46 "BellTheCat$House" "ratCount" "I", Cond.fieldLink RX0 36 "BellTheCat$House" "gain" "I", Cond.methodLink RX7 305 yX5_readInto, Cond.instanceMethod yX5_readInto, Cond.selects RX5 yX5_readInto yX5_readInto, Cond.initialized RX5]
def wsX7_readDraft_r2 : List Cond := [Cond.code yX5_readInto cX5_readInto 3 (some .int), Cond.fieldLink RX5 22 "BellTheCat$Text" "end" "I", Cond.fieldLink RX5 32 "BellTheCat$Text" "start" "I", Cond.fieldLink RX5 18 "BellTheCat$Text" "length" "I", Cond.fieldLink RX5 35 "BellTheCat$Text" "clauses" "I", Cond.methodLink RX5 25 yX5_nextToken, Cond.instanceMethod yX5_nextToken, Cond.selects RX5 yX5_nextToken yX5_nextToken, Cond.code yX5_nextToken cX5_nextToken 2 none, Cond.methodLink RX5 87 Lib.Math.min.name, Cond.static Lib.Math.min.name, Cond.initialized "java/lang/Math", Cond.code Lib.Math.min.name Lib.Math.min.code 2 (some .int), Cond.methodLink RX5 72 yX5_endOfBlanks, Cond.instanceMethod yX5_endOfBlanks, Cond.selects RX5 yX5_endOfBlanks yX5_endOfBlanks, Cond.code yX5_endOfBlanks cX5_endOfBlanks 3 (some .int), Cond.methodLink RX5 38 yX5_letterAt, Cond.instanceMethod yX5_letterAt, Cond.selects RX5 yX5_letterAt yX5_letterAt, Cond.code yX5_letterAt cX5_letterAt 2 (some .int), Cond.fieldLink RX5 9 "BellTheCat$Text" "letters" "[I", Cond.methodLink RX5 75 yX5_isSmall, Cond.static yX5_isSmall]
def wsX7_readDraft_r3 : List Cond := [Cond.code yX5_isSmall cX5_isSmall 1 (some .boolean), Cond.methodLink RX5 78 yX5_endOfWord, Cond.instanceMethod yX5_endOfWord, Cond.selects RX5 yX5_endOfWord yX5_endOfWord, Cond.code yX5_endOfWord cX5_endOfWord 3 (some .int), Cond.methodLink RX5 81 yX5_isDigit, Cond.static yX5_isDigit, Cond.code yX5_isDigit cX5_isDigit 1 (some .boolean), Cond.methodLink RX5 84 yX5_endOfNumber, Cond.instanceMethod yX5_endOfNumber, Cond.selects RX5 yX5_endOfNumber yX5_endOfNumber, Cond.code yX5_endOfNumber cX5_endOfNumber 3 (some .int), Cond.methodLink RX5 28 yX5_readClause, Cond.instanceMethod yX5_readClause, Cond.selects RX5 yX5_readClause yX5_readClause, Cond.code yX5_readClause cX5_readClause 5 (some .boolean), Cond.fieldLink RX5 15 "BellTheCat$Text" "numbers" "[I", Cond.methodLink RX5 42 yX5_wordHere, Cond.instanceMethod yX5_wordHere, Cond.selects RX5 yX5_wordHere yX5_wordHere, Cond.code yX5_wordHere cX5_wordHere 1 (some .int), Cond.methodLink RX5 94 yX5_isHere, Cond.instanceMethod yX5_isHere, Cond.selects RX5 yX5_isHere yX5_isHere]
def wsX7_readDraft_r4 : List Cond := [Cond.code yX5_isHere cX5_isHere 3 (some .boolean), Cond.methodLink RX5 114 yJ0_length_8abf5, Cond.instanceMethod yJ0_length_8abf5, Cond.selects RJ0 yJ0_length_8abf5 yJ0_length_8abf5, Cond.initialized RJ0, Cond.code yJ0_length_8abf5 cJ0_length_8abf5 1 (some .int), Cond.fieldLink RJ0 9 "java/lang/String" "value" "[B", Cond.methodLink RJ0 335 yJ0_coder_7d493, Cond.instanceMethod yJ0_coder_7d493, Cond.selects RJ0 yJ0_coder_7d493 yJ0_coder_7d493, Cond.code yJ0_coder_7d493 cJ0_coder_7d493 1 (some .byte), Cond.fieldLink RJ0 38 "java/lang/String" "COMPACT_STRINGS" "Z", Cond.fieldLink RJ0 15 "java/lang/String" "coder" "B", Cond.methodLink RX5 118 yJ0_charAt_5068e, Cond.instanceMethod yJ0_charAt_5068e, Cond.selects RJ0 yJ0_charAt_5068e yJ0_charAt_5068e, Cond.code yJ0_charAt_5068e cJ0_charAt_5068e 2 (some .char), Cond.methodLink RJ0 492 yJ0_isLatin1_aae02, Cond.instanceMethod yJ0_isLatin1_aae02, Cond.selects RJ0 yJ0_isLatin1_aae02 yJ0_isLatin1_aae02, Cond.code yJ0_isLatin1_aae02 cJ0_isLatin1_aae02 1 (some .boolean), Cond.methodLink RJ0 495 yJ1_charAt_3b067, Cond.static yJ1_charAt_3b067, Cond.initialized RJ1]
def wsX7_readDraft_r5 : List Cond := [Cond.code yJ1_charAt_3b067 cJ1_charAt_3b067 2 (some .char), Cond.methodLink RJ1 9 yJ0_checkIndex_df160, Cond.static yJ0_checkIndex_df160, Cond.code yJ0_checkIndex_df160 cJ0_checkIndex_df160 2 none, Cond.fieldLink RJ0 1053 "jdk/internal/util/Preconditions" "SIOOBE_FORMATTER" "Ljava/util/function/BiFunction;", Cond.methodLink RJ0 1059 yJ3_checkIndex_8e157, Cond.static yJ3_checkIndex_8e157, Cond.initialized RJ3, Cond.code yJ3_checkIndex_8e157 cJ3_checkIndex_8e157 3 (some .int), Cond.methodLink RJ0 498 yJ2_charAt_3b067, Cond.static yJ2_charAt_3b067, Cond.initialized RJ2, Cond.code yJ2_charAt_3b067 cJ2_charAt_3b067 2 (some .char), Cond.methodLink RJ2 67 yJ2_checkIndex_2214a, Cond.static yJ2_checkIndex_2214a, Cond.code yJ2_checkIndex_2214a cJ2_checkIndex_2214a 2 none, Cond.methodLink RJ2 48 yJ2_length_9d52b, Cond.static yJ2_length_9d52b, Cond.code yJ2_length_9d52b cJ2_length_9d52b 1 (some .int), Cond.methodLink RJ2 414 yJ0_checkIndex_df160, Cond.methodLink RJ2 71 yJ2_getChar_3b067, Cond.static yJ2_getChar_3b067, Cond.code yJ2_getChar_3b067 cJ2_getChar_3b067 2 (some .char), Cond.fieldLink RJ2 44 "java/lang/StringUTF16" "$assertionsDisabled" "Z"]
def wsX7_readDraft_r6 : List Cond := [Cond.fieldLink RJ2 59 "java/lang/StringUTF16" "HI_BYTE_SHIFT" "I", Cond.fieldLink RJ2 63 "java/lang/StringUTF16" "LO_BYTE_SHIFT" "I", Cond.methodLink RX5 46 yX0_takes, Cond.instanceMethod yX0_takes, Cond.selects RX0 yX0_takes yX0_takes, Cond.code yX0_takes cX0_takes 2 (some .boolean), Cond.methodLink RX5 52 yJ7_fill_53178, Cond.static yJ7_fill_53178, Cond.initialized RJ7, Cond.code yJ7_fill_53178 cJ7_fill_53178 4 none, Cond.methodLink RX5 58 yX5_numbersBehind, Cond.static yX5_numbersBehind, Cond.code yX5_numbersBehind cX5_numbersBehind 1 (some .int), Cond.methodLink RX5 61 yX5_numberHere, Cond.instanceMethod yX5_numberHere, Cond.selects RX5 yX5_numberHere yX5_numberHere, Cond.code yX5_numberHere cX5_numberHere 3 (some .int), Cond.methodLink RX5 64 yX5_mostOf, Cond.static yX5_mostOf, Cond.code yX5_mostOf cX5_mostOf 2 (some .int), Cond.methodLink RX5 68 yX0_apply, Cond.instanceMethod yX0_apply, Cond.selects RX0 yX0_apply yX0_apply, Cond.code yX0_apply cX0_apply 5 none]
def wsX7_readDraft_r7 : List Cond := [Cond.methodLink RX0 49 yX0_takes, Cond.methodLink RX0 53 yX0_addRat, Cond.instanceMethod yX0_addRat, Cond.selects RX0 yX0_addRat yX0_addRat, Cond.code yX0_addRat cX0_addRat 4 none, Cond.methodLink RX0 57 yX0_empty, Cond.instanceMethod yX0_empty, Cond.selects RX0 yX0_empty yX0_empty, Cond.code yX0_empty cX0_empty 1 none, Cond.methodLink RX0 60 yX0_addMouse, Cond.instanceMethod yX0_addMouse, Cond.selects RX0 yX0_addMouse yX0_addMouse, Cond.code yX0_addMouse cX0_addMouse 5 none]
def wsX7_readDraft : List Cond := .code yX7_readDraft cX7_readDraft 1 (some .int) :: ((wsX7_readDraft_r1 ++ (wsX7_readDraft_r2 ++ (wsX7_readDraft_r3 ++ (wsX7_readDraft_r4 ++ (wsX7_readDraft_r5 ++ (wsX7_readDraft_r6 ++ wsX7_readDraft_r7)))))) ++ wsX70 ++ wsX00 ++ wsX50)
def wsX7_fault_r1 : List Cond := [Cond.methodLink RX7 81 yX7_readDraft, Cond.instanceMethod yX7_readDraft, Cond.selects RX7 yX7_readDraft yX7_readDraft, Cond.initialized RX7, Cond.code yX7_readDraft cX7_readDraft 1 (some .int), Cond.fieldLink RX7 23 "BellTheCat" "draft" "LBellTheCat$House;", Cond.fieldLink RX7 19 "BellTheCat" "told" "LBellTheCat$House;", Cond.fieldLink RX7 10 "BellTheCat" "text" "LBellTheCat$Text;", Cond.methodLink RX7 85 yX0_copyFrom, Cond.instanceMethod yX0_copyFrom, Cond.selects RX0 yX0_copyFrom yX0_copyFrom, Cond.initialized RX0, Cond.code yX0_copyFrom cX0_copyFrom 3 none, Cond.fieldLink RX0 9 "BellTheCat$House" "kinds" "[I", Cond.fieldLink RX0 15 "BellTheCat$House" "speeds" "[I", Cond.fieldLink RX0 18 "BellTheCat$House" "fears" "[I", Cond.fieldLink RX0 21 "BellTheCat$House" "tickets" "[I", Cond.fieldLink RX0 24 "BellTheCat$House" "noises" "[I", Cond.fieldLink RX0 27 "BellTheCat$House" "prices" "[I", Cond.fieldLink RX0 30 "BellTheCat$House" "skills" "[I", Cond.fieldLink RX0 33 "BellTheCat$House" "words" "[I", Cond.fieldLink RX0 40 "BellTheCat$House" "miceCount" "I", Cond.fieldLink RX0 43 "BellTheCat$House" "stepCount" "I", Cond.fieldLink RX0 46 "BellTheCat$House" "ratCount" "I"]
def wsX7_fault_r2 : List Cond := [Cond.fieldLink RX0 36 "BellTheCat$House" "gain" "I", Cond.methodLink RX7 305 yX5_readInto, Cond.instanceMethod yX5_readInto, Cond.selects RX5 yX5_readInto yX5_readInto, Cond.initialized RX5, Cond.code yX5_readInto cX5_readInto 3 (some .int), Cond.fieldLink RX5 22 "BellTheCat$Text" "end" "I", Cond.fieldLink RX5 32 "BellTheCat$Text" "start" "I", Cond.fieldLink RX5 18 "BellTheCat$Text" "length" "I", Cond.fieldLink RX5 35 "BellTheCat$Text" "clauses" "I", Cond.methodLink RX5 25 yX5_nextToken, Cond.instanceMethod yX5_nextToken, Cond.selects RX5 yX5_nextToken yX5_nextToken, Cond.code yX5_nextToken cX5_nextToken 2 none, Cond.methodLink RX5 87 Lib.Math.min.name, Cond.static Lib.Math.min.name, Cond.initialized "java/lang/Math", Cond.code Lib.Math.min.name Lib.Math.min.code 2 (some .int), Cond.methodLink RX5 72 yX5_endOfBlanks, Cond.instanceMethod yX5_endOfBlanks, Cond.selects RX5 yX5_endOfBlanks yX5_endOfBlanks, Cond.code yX5_endOfBlanks cX5_endOfBlanks 3 (some .int), Cond.methodLink RX5 38 yX5_letterAt, Cond.instanceMethod yX5_letterAt]
def wsX7_fault_r3 : List Cond := [Cond.selects RX5 yX5_letterAt yX5_letterAt, Cond.code yX5_letterAt cX5_letterAt 2 (some .int), Cond.fieldLink RX5 9 "BellTheCat$Text" "letters" "[I", Cond.methodLink RX5 75 yX5_isSmall, Cond.static yX5_isSmall, Cond.code yX5_isSmall cX5_isSmall 1 (some .boolean), Cond.methodLink RX5 78 yX5_endOfWord, Cond.instanceMethod yX5_endOfWord, Cond.selects RX5 yX5_endOfWord yX5_endOfWord, Cond.code yX5_endOfWord cX5_endOfWord 3 (some .int), Cond.methodLink RX5 81 yX5_isDigit, Cond.static yX5_isDigit, Cond.code yX5_isDigit cX5_isDigit 1 (some .boolean), Cond.methodLink RX5 84 yX5_endOfNumber, Cond.instanceMethod yX5_endOfNumber, Cond.selects RX5 yX5_endOfNumber yX5_endOfNumber, Cond.code yX5_endOfNumber cX5_endOfNumber 3 (some .int), Cond.methodLink RX5 28 yX5_readClause, Cond.instanceMethod yX5_readClause, Cond.selects RX5 yX5_readClause yX5_readClause, Cond.code yX5_readClause cX5_readClause 5 (some .boolean), Cond.fieldLink RX5 15 "BellTheCat$Text" "numbers" "[I", Cond.methodLink RX5 42 yX5_wordHere, Cond.instanceMethod yX5_wordHere]
def wsX7_fault_r4 : List Cond := [Cond.selects RX5 yX5_wordHere yX5_wordHere, Cond.code yX5_wordHere cX5_wordHere 1 (some .int), Cond.methodLink RX5 94 yX5_isHere, Cond.instanceMethod yX5_isHere, Cond.selects RX5 yX5_isHere yX5_isHere, Cond.code yX5_isHere cX5_isHere 3 (some .boolean), Cond.methodLink RX5 114 yJ0_length_8abf5, Cond.instanceMethod yJ0_length_8abf5, Cond.selects RJ0 yJ0_length_8abf5 yJ0_length_8abf5, Cond.initialized RJ0, Cond.code yJ0_length_8abf5 cJ0_length_8abf5 1 (some .int), Cond.fieldLink RJ0 9 "java/lang/String" "value" "[B", Cond.methodLink RJ0 335 yJ0_coder_7d493, Cond.instanceMethod yJ0_coder_7d493, Cond.selects RJ0 yJ0_coder_7d493 yJ0_coder_7d493, Cond.code yJ0_coder_7d493 cJ0_coder_7d493 1 (some .byte), Cond.fieldLink RJ0 38 "java/lang/String" "COMPACT_STRINGS" "Z", Cond.fieldLink RJ0 15 "java/lang/String" "coder" "B", Cond.methodLink RX5 118 yJ0_charAt_5068e, Cond.instanceMethod yJ0_charAt_5068e, Cond.selects RJ0 yJ0_charAt_5068e yJ0_charAt_5068e, Cond.code yJ0_charAt_5068e cJ0_charAt_5068e 2 (some .char), Cond.methodLink RJ0 492 yJ0_isLatin1_aae02, Cond.instanceMethod yJ0_isLatin1_aae02]
def wsX7_fault_r5 : List Cond := [Cond.selects RJ0 yJ0_isLatin1_aae02 yJ0_isLatin1_aae02, Cond.code yJ0_isLatin1_aae02 cJ0_isLatin1_aae02 1 (some .boolean), Cond.methodLink RJ0 495 yJ1_charAt_3b067, Cond.static yJ1_charAt_3b067, Cond.initialized RJ1, Cond.code yJ1_charAt_3b067 cJ1_charAt_3b067 2 (some .char), Cond.methodLink RJ1 9 yJ0_checkIndex_df160, Cond.static yJ0_checkIndex_df160, Cond.code yJ0_checkIndex_df160 cJ0_checkIndex_df160 2 none, Cond.fieldLink RJ0 1053 "jdk/internal/util/Preconditions" "SIOOBE_FORMATTER" "Ljava/util/function/BiFunction;", Cond.methodLink RJ0 1059 yJ3_checkIndex_8e157, Cond.static yJ3_checkIndex_8e157, Cond.initialized RJ3, Cond.code yJ3_checkIndex_8e157 cJ3_checkIndex_8e157 3 (some .int), Cond.methodLink RJ0 498 yJ2_charAt_3b067, Cond.static yJ2_charAt_3b067, Cond.initialized RJ2, Cond.code yJ2_charAt_3b067 cJ2_charAt_3b067 2 (some .char), Cond.methodLink RJ2 67 yJ2_checkIndex_2214a, Cond.static yJ2_checkIndex_2214a, Cond.code yJ2_checkIndex_2214a cJ2_checkIndex_2214a 2 none, Cond.methodLink RJ2 48 yJ2_length_9d52b, Cond.static yJ2_length_9d52b, Cond.code yJ2_length_9d52b cJ2_length_9d52b 1 (some .int)]
def wsX7_fault_r6 : List Cond := [Cond.methodLink RJ2 414 yJ0_checkIndex_df160, Cond.methodLink RJ2 71 yJ2_getChar_3b067, Cond.static yJ2_getChar_3b067, Cond.code yJ2_getChar_3b067 cJ2_getChar_3b067 2 (some .char), Cond.fieldLink RJ2 44 "java/lang/StringUTF16" "$assertionsDisabled" "Z", Cond.fieldLink RJ2 59 "java/lang/StringUTF16" "HI_BYTE_SHIFT" "I", Cond.fieldLink RJ2 63 "java/lang/StringUTF16" "LO_BYTE_SHIFT" "I", Cond.methodLink RX5 46 yX0_takes, Cond.instanceMethod yX0_takes, Cond.selects RX0 yX0_takes yX0_takes, Cond.code yX0_takes cX0_takes 2 (some .boolean), Cond.methodLink RX5 52 yJ7_fill_53178, Cond.static yJ7_fill_53178, Cond.initialized RJ7, Cond.code yJ7_fill_53178 cJ7_fill_53178 4 none, Cond.methodLink RX5 58 yX5_numbersBehind, Cond.static yX5_numbersBehind, Cond.code yX5_numbersBehind cX5_numbersBehind 1 (some .int), Cond.methodLink RX5 61 yX5_numberHere, Cond.instanceMethod yX5_numberHere, Cond.selects RX5 yX5_numberHere yX5_numberHere, Cond.code yX5_numberHere cX5_numberHere 3 (some .int), Cond.methodLink RX5 64 yX5_mostOf, Cond.static yX5_mostOf]
def wsX7_fault_r7 : List Cond := [Cond.code yX5_mostOf cX5_mostOf 2 (some .int), Cond.methodLink RX5 68 yX0_apply, Cond.instanceMethod yX0_apply, Cond.selects RX0 yX0_apply yX0_apply, Cond.code yX0_apply cX0_apply 5 none, Cond.methodLink RX0 49 yX0_takes, Cond.methodLink RX0 53 yX0_addRat, Cond.instanceMethod yX0_addRat, Cond.selects RX0 yX0_addRat yX0_addRat, Cond.code yX0_addRat cX0_addRat 4 none, Cond.methodLink RX0 57 yX0_empty, Cond.instanceMethod yX0_empty, Cond.selects RX0 yX0_empty yX0_empty, Cond.code yX0_empty cX0_empty 1 none, Cond.methodLink RX0 60 yX0_addMouse, Cond.instanceMethod yX0_addMouse, Cond.selects RX0 yX0_addMouse yX0_addMouse, Cond.code yX0_addMouse cX0_addMouse 5 none]
def wsX7_fault : List Cond := .code yX7_fault cX7_fault 1 (some .int) :: ((wsX7_fault_r1 ++ (wsX7_fault_r2 ++ (wsX7_fault_r3 ++ (wsX7_fault_r4 ++ (wsX7_fault_r5 ++ (wsX7_fault_r6 ++ wsX7_fault_r7)))))) ++ wsX70 ++ wsX00 ++ wsX50)
def wsX7_house_r1 : List Cond := [Cond.fieldLink RX7 19 "BellTheCat" "told" "LBellTheCat$House;", Cond.fieldLink RX7 23 "BellTheCat" "draft" "LBellTheCat$House;", Cond.fieldLink RX7 10 "BellTheCat" "text" "LBellTheCat$Text;", Cond.fieldLink RX7 77 "BellTheCat$Text" "length" "I", Cond.fieldLink RX7 29 "BellTheCat" "now" "LBellTheCat$Team;", Cond.fieldLink RX7 89 "BellTheCat$House" "miceCount" "I", Cond.fieldLink RX7 36 "BellTheCat" "latest" "LBellTheCat$Undo;", Cond.fieldLink RX7 96 "BellTheCat$Undo" "depth" "I", Cond.fieldLink RX7 51 "BellTheCat" "sightings" "LBellTheCat$Sightings;", Cond.fieldLink RX7 99 "BellTheCat$Sightings" "size" "I", Cond.fieldLink RX7 44 "BellTheCat" "isKept" "[Z", Cond.fieldLink RX7 102 "BellTheCat$Text" "clauses" "I", Cond.methodLink RX7 81 yX7_readDraft, Cond.instanceMethod yX7_readDraft, Cond.selects RX7 yX7_readDraft yX7_readDraft, Cond.initialized RX7, Cond.code yX7_readDraft cX7_readDraft 1 (some .int), Cond.methodLink RX7 85 yX0_copyFrom, Cond.instanceMethod yX0_copyFrom, Cond.selects RX0 yX0_copyFrom yX0_copyFrom, Cond.initialized RX0, Cond.code yX0_copyFrom cX0_copyFrom 3 none, Cond.fieldLink RX0 9 "BellTheCat$House" "kinds" "[I", Cond.fieldLink RX0 15 "BellTheCat$House" "speeds" "[I"]
def wsX7_house_r2 : List Cond := [Cond.fieldLink RX0 18 "BellTheCat$House" "fears" "[I", Cond.fieldLink RX0 21 "BellTheCat$House" "tickets" "[I", Cond.fieldLink RX0 24 "BellTheCat$House" "noises" "[I", Cond.fieldLink RX0 27 "BellTheCat$House" "prices" "[I", Cond.fieldLink RX0 30 "BellTheCat$House" "skills" "[I", Cond.fieldLink RX0 33 "BellTheCat$House" "words" "[I", Cond.fieldLink RX0 40 "BellTheCat$House" "miceCount" "I", Cond.fieldLink RX0 43 "BellTheCat$House" "stepCount" "I", Cond.fieldLink RX0 46 "BellTheCat$House" "ratCount" "I", Cond.fieldLink RX0 36 "BellTheCat$House" "gain" "I", Cond.methodLink RX7 305 yX5_readInto, Cond.instanceMethod yX5_readInto, Cond.selects RX5 yX5_readInto yX5_readInto, Cond.initialized RX5, Cond.code yX5_readInto cX5_readInto 3 (some .int), Cond.fieldLink RX5 22 "BellTheCat$Text" "end" "I", Cond.fieldLink RX5 32 "BellTheCat$Text" "start" "I", Cond.fieldLink RX5 18 "BellTheCat$Text" "length" "I", Cond.fieldLink RX5 35 "BellTheCat$Text" "clauses" "I", Cond.methodLink RX5 25 yX5_nextToken, Cond.instanceMethod yX5_nextToken, Cond.selects RX5 yX5_nextToken yX5_nextToken, Cond.code yX5_nextToken cX5_nextToken 2 none, Cond.methodLink RX5 87 Lib.Math.min.name]
def wsX7_house_r3 : List Cond := [Cond.static Lib.Math.min.name, Cond.initialized "java/lang/Math", Cond.code Lib.Math.min.name Lib.Math.min.code 2 (some .int), Cond.methodLink RX5 72 yX5_endOfBlanks, Cond.instanceMethod yX5_endOfBlanks, Cond.selects RX5 yX5_endOfBlanks yX5_endOfBlanks, Cond.code yX5_endOfBlanks cX5_endOfBlanks 3 (some .int), Cond.methodLink RX5 38 yX5_letterAt, Cond.instanceMethod yX5_letterAt, Cond.selects RX5 yX5_letterAt yX5_letterAt, Cond.code yX5_letterAt cX5_letterAt 2 (some .int), Cond.fieldLink RX5 9 "BellTheCat$Text" "letters" "[I", Cond.methodLink RX5 75 yX5_isSmall, Cond.static yX5_isSmall, Cond.code yX5_isSmall cX5_isSmall 1 (some .boolean), Cond.methodLink RX5 78 yX5_endOfWord, Cond.instanceMethod yX5_endOfWord, Cond.selects RX5 yX5_endOfWord yX5_endOfWord, Cond.code yX5_endOfWord cX5_endOfWord 3 (some .int), Cond.methodLink RX5 81 yX5_isDigit, Cond.static yX5_isDigit, Cond.code yX5_isDigit cX5_isDigit 1 (some .boolean), Cond.methodLink RX5 84 yX5_endOfNumber, Cond.instanceMethod yX5_endOfNumber]
def wsX7_house_r4 : List Cond := [Cond.selects RX5 yX5_endOfNumber yX5_endOfNumber, Cond.code yX5_endOfNumber cX5_endOfNumber 3 (some .int), Cond.methodLink RX5 28 yX5_readClause, Cond.instanceMethod yX5_readClause, Cond.selects RX5 yX5_readClause yX5_readClause, Cond.code yX5_readClause cX5_readClause 5 (some .boolean), Cond.fieldLink RX5 15 "BellTheCat$Text" "numbers" "[I", Cond.methodLink RX5 42 yX5_wordHere, Cond.instanceMethod yX5_wordHere, Cond.selects RX5 yX5_wordHere yX5_wordHere, Cond.code yX5_wordHere cX5_wordHere 1 (some .int), Cond.methodLink RX5 94 yX5_isHere, Cond.instanceMethod yX5_isHere, Cond.selects RX5 yX5_isHere yX5_isHere, Cond.code yX5_isHere cX5_isHere 3 (some .boolean), Cond.methodLink RX5 114 yJ0_length_8abf5, Cond.instanceMethod yJ0_length_8abf5, Cond.selects RJ0 yJ0_length_8abf5 yJ0_length_8abf5, Cond.initialized RJ0, Cond.code yJ0_length_8abf5 cJ0_length_8abf5 1 (some .int), Cond.fieldLink RJ0 9 "java/lang/String" "value" "[B", Cond.methodLink RJ0 335 yJ0_coder_7d493, Cond.instanceMethod yJ0_coder_7d493, Cond.selects RJ0 yJ0_coder_7d493 yJ0_coder_7d493]
def wsX7_house_r5 : List Cond := [Cond.code yJ0_coder_7d493 cJ0_coder_7d493 1 (some .byte), Cond.fieldLink RJ0 38 "java/lang/String" "COMPACT_STRINGS" "Z", Cond.fieldLink RJ0 15 "java/lang/String" "coder" "B", Cond.methodLink RX5 118 yJ0_charAt_5068e, Cond.instanceMethod yJ0_charAt_5068e, Cond.selects RJ0 yJ0_charAt_5068e yJ0_charAt_5068e, Cond.code yJ0_charAt_5068e cJ0_charAt_5068e 2 (some .char), Cond.methodLink RJ0 492 yJ0_isLatin1_aae02, Cond.instanceMethod yJ0_isLatin1_aae02, Cond.selects RJ0 yJ0_isLatin1_aae02 yJ0_isLatin1_aae02, Cond.code yJ0_isLatin1_aae02 cJ0_isLatin1_aae02 1 (some .boolean), Cond.methodLink RJ0 495 yJ1_charAt_3b067, Cond.static yJ1_charAt_3b067, Cond.initialized RJ1, Cond.code yJ1_charAt_3b067 cJ1_charAt_3b067 2 (some .char), Cond.methodLink RJ1 9 yJ0_checkIndex_df160, Cond.static yJ0_checkIndex_df160, Cond.code yJ0_checkIndex_df160 cJ0_checkIndex_df160 2 none, Cond.fieldLink RJ0 1053 "jdk/internal/util/Preconditions" "SIOOBE_FORMATTER" "Ljava/util/function/BiFunction;", Cond.methodLink RJ0 1059 yJ3_checkIndex_8e157, Cond.static yJ3_checkIndex_8e157, Cond.initialized RJ3, Cond.code yJ3_checkIndex_8e157 cJ3_checkIndex_8e157 3 (some .int), Cond.methodLink RJ0 498 yJ2_charAt_3b067]
def wsX7_house_r6 : List Cond := [Cond.static yJ2_charAt_3b067, Cond.initialized RJ2, Cond.code yJ2_charAt_3b067 cJ2_charAt_3b067 2 (some .char), Cond.methodLink RJ2 67 yJ2_checkIndex_2214a, Cond.static yJ2_checkIndex_2214a, Cond.code yJ2_checkIndex_2214a cJ2_checkIndex_2214a 2 none, Cond.methodLink RJ2 48 yJ2_length_9d52b, Cond.static yJ2_length_9d52b, Cond.code yJ2_length_9d52b cJ2_length_9d52b 1 (some .int), Cond.methodLink RJ2 414 yJ0_checkIndex_df160, Cond.methodLink RJ2 71 yJ2_getChar_3b067, Cond.static yJ2_getChar_3b067, Cond.code yJ2_getChar_3b067 cJ2_getChar_3b067 2 (some .char), Cond.fieldLink RJ2 44 "java/lang/StringUTF16" "$assertionsDisabled" "Z", Cond.fieldLink RJ2 59 "java/lang/StringUTF16" "HI_BYTE_SHIFT" "I", Cond.fieldLink RJ2 63 "java/lang/StringUTF16" "LO_BYTE_SHIFT" "I", Cond.methodLink RX5 46 yX0_takes, Cond.instanceMethod yX0_takes, Cond.selects RX0 yX0_takes yX0_takes, Cond.code yX0_takes cX0_takes 2 (some .boolean), Cond.methodLink RX5 52 yJ7_fill_53178, Cond.static yJ7_fill_53178, Cond.initialized RJ7, Cond.code yJ7_fill_53178 cJ7_fill_53178 4 none]
def wsX7_house_r7 : List Cond := [Cond.methodLink RX5 58 yX5_numbersBehind, Cond.static yX5_numbersBehind, Cond.code yX5_numbersBehind cX5_numbersBehind 1 (some .int), Cond.methodLink RX5 61 yX5_numberHere, Cond.instanceMethod yX5_numberHere, Cond.selects RX5 yX5_numberHere yX5_numberHere, Cond.code yX5_numberHere cX5_numberHere 3 (some .int), Cond.methodLink RX5 64 yX5_mostOf, Cond.static yX5_mostOf, Cond.code yX5_mostOf cX5_mostOf 2 (some .int), Cond.methodLink RX5 68 yX0_apply, Cond.instanceMethod yX0_apply, Cond.selects RX0 yX0_apply yX0_apply, Cond.code yX0_apply cX0_apply 5 none, Cond.methodLink RX0 49 yX0_takes, Cond.methodLink RX0 53 yX0_addRat, Cond.instanceMethod yX0_addRat, Cond.selects RX0 yX0_addRat yX0_addRat, Cond.code yX0_addRat cX0_addRat 4 none, Cond.methodLink RX0 57 yX0_empty, Cond.instanceMethod yX0_empty, Cond.selects RX0 yX0_empty yX0_empty, Cond.code yX0_empty cX0_empty 1 none, Cond.methodLink RX0 60 yX0_addMouse]
def wsX7_house_r8 : List Cond := [Cond.instanceMethod yX0_addMouse, Cond.selects RX0 yX0_addMouse yX0_addMouse, Cond.code yX0_addMouse cX0_addMouse 5 none, Cond.methodLink RX7 92 yX4_begin, Cond.instanceMethod yX4_begin, Cond.selects RX4 yX4_begin yX4_begin, Cond.initialized RX4, Cond.code yX4_begin cX4_begin 2 none, Cond.fieldLink RX4 24 "BellTheCat$Team" "nights" "I", Cond.fieldLink RX4 28 "BellTheCat$Team" "living" "I", Cond.fieldLink RX4 31 "BellTheCat$Team" "belled" "Z", Cond.methodLink RX4 21 yX4_dismiss, Cond.instanceMethod yX4_dismiss, Cond.selects RX4 yX4_dismiss yX4_dismiss, Cond.code yX4_dismiss cX4_dismiss 1 none, Cond.fieldLink RX4 9 "BellTheCat$Team" "doers" "[I", Cond.methodLink RX4 15 yJ7_fill_53178]
def wsX7_house : List Cond := .code yX7_house cX7_house 2 (some .int) :: ((wsX7_house_r1 ++ (wsX7_house_r2 ++ (wsX7_house_r3 ++ (wsX7_house_r4 ++ (wsX7_house_r5 ++ (wsX7_house_r6 ++ (wsX7_house_r7 ++ wsX7_house_r8))))))) ++ wsX70 ++ wsX50 ++ wsX00 ++ wsX60 ++ wsX30 ++ wsX40)
def wsX7_mouse : List Cond := .code yX7_mouse cX7_mouse 3 (some .int) :: ([.fieldLink RX7 19 "BellTheCat" "told" "LBellTheCat$House;", .fieldLink RX7 108 "BellTheCat$House" "kinds" "[I", .fieldLink RX7 112 "BellTheCat$House" "speeds" "[I", .fieldLink RX7 115 "BellTheCat$House" "fears" "[I", .fieldLink RX7 118 "BellTheCat$House" "tickets" "[I", .fieldLink RX7 29 "BellTheCat" "now" "LBellTheCat$Team;", .methodLink RX7 105 yX0_hasMouse, .instanceMethod yX0_hasMouse, .selects RX0 yX0_hasMouse yX0_hasMouse, .initialized RX0, .code yX0_hasMouse cX0_hasMouse 2 (some .boolean), .fieldLink RX0 40 "BellTheCat$House" "miceCount" "I", .methodLink RX7 121 yX4_lives, .instanceMethod yX4_lives, .selects RX4 yX4_lives yX4_lives, .initialized RX4, .code yX4_lives cX4_lives 2 (some .boolean), .fieldLink RX4 28 "BellTheCat$Team" "living" "I", .methodLink RX7 124 yX4_stepsOf, .instanceMethod yX4_stepsOf, .selects RX4 yX4_stepsOf yX4_stepsOf, .code yX4_stepsOf cX4_stepsOf 4 (some .int), .fieldLink RX4 9 "BellTheCat$Team" "doers" "[I"] ++ wsX70 ++ wsX00 ++ wsX40)
def wsX7_step : List Cond := .code yX7_step cX7_step 3 (some .int) :: ([.fieldLink RX7 19 "BellTheCat" "told" "LBellTheCat$House;", .fieldLink RX7 131 "BellTheCat$House" "noises" "[I", .fieldLink RX7 29 "BellTheCat" "now" "LBellTheCat$Team;", .methodLink RX7 128 yX0_hasStep, .instanceMethod yX0_hasStep, .selects RX0 yX0_hasStep yX0_hasStep, .initialized RX0, .code yX0_hasStep cX0_hasStep 2 (some .boolean), .fieldLink RX0 43 "BellTheCat$House" "stepCount" "I", .methodLink RX7 134 yX4_doerOf, .instanceMethod yX4_doerOf, .selects RX4 yX4_doerOf yX4_doerOf, .initialized RX4, .code yX4_doerOf cX4_doerOf 2 (some .int), .fieldLink RX4 9 "BellTheCat$Team" "doers" "[I"] ++ wsX70 ++ wsX00 ++ wsX40)
def wsX7_rat : List Cond := .code yX7_rat cX7_rat 3 (some .int) :: ([.fieldLink RX7 19 "BellTheCat" "told" "LBellTheCat$House;", .fieldLink RX7 140 "BellTheCat$House" "prices" "[I", .fieldLink RX7 143 "BellTheCat$House" "skills" "[I", .fieldLink RX7 146 "BellTheCat$House" "words" "[I", .methodLink RX7 137 yX0_hasRat, .instanceMethod yX0_hasRat, .selects RX0 yX0_hasRat yX0_hasRat, .initialized RX0, .code yX0_hasRat cX0_hasRat 2 (some .boolean), .fieldLink RX0 46 "BellTheCat$House" "ratCount" "I"] ++ wsX70 ++ wsX00)
def wsX7_canBeTakenAs : List Cond := .code yX7_canBeTakenAs cX7_canBeTakenAs 2 (some .boolean) :: ([])
def wsX7_as_r1 : List Cond := [Cond.fieldLink RX7 19 "BellTheCat" "told" "LBellTheCat$House;", Cond.fieldLink RX7 108 "BellTheCat$House" "kinds" "[I", Cond.fieldLink RX7 112 "BellTheCat$House" "speeds" "[I", Cond.methodLink RX7 105 yX0_hasMouse, Cond.instanceMethod yX0_hasMouse, Cond.selects RX0 yX0_hasMouse yX0_hasMouse, Cond.initialized RX0, Cond.code yX0_hasMouse cX0_hasMouse 2 (some .boolean), Cond.fieldLink RX0 40 "BellTheCat$House" "miceCount" "I", Cond.methodLink RX7 69 yX7_within, Cond.static yX7_within, Cond.initialized RX7, Cond.code yX7_within cX7_within 2 (some .boolean), Cond.methodLink RX7 149 yX7_canBeTakenAs, Cond.static yX7_canBeTakenAs, Cond.code yX7_canBeTakenAs cX7_canBeTakenAs 2 (some .boolean), Cond.methodLink RX7 152 yX7_dangerOf, Cond.static yX7_dangerOf, Cond.code yX7_dangerOf cX7_dangerOf 4 (some .int), Cond.methodLink RX7 317 Lib.Math.max.name, Cond.static Lib.Math.max.name, Cond.initialized "java/lang/Math", Cond.code Lib.Math.max.name Lib.Math.max.code 2 (some .int), Cond.methodLink RX7 272 Lib.Math.min.name]
def wsX7_as_r2 : List Cond := [Cond.static Lib.Math.min.name, Cond.code Lib.Math.min.name Lib.Math.min.code 2 (some .int)]
def wsX7_as : List Cond := .code yX7_as cX7_as 3 (some .int) :: ((wsX7_as_r1 ++ wsX7_as_r2) ++ wsX70 ++ wsX00)
def wsX7_danger_r1 : List Cond := [Cond.fieldLink RX7 19 "BellTheCat" "told" "LBellTheCat$House;", Cond.methodLink RX7 128 yX0_hasStep, Cond.instanceMethod yX0_hasStep, Cond.selects RX0 yX0_hasStep yX0_hasStep, Cond.initialized RX0, Cond.code yX0_hasStep cX0_hasStep 2 (some .boolean), Cond.fieldLink RX0 43 "BellTheCat$House" "stepCount" "I", Cond.methodLink RX7 105 yX0_hasMouse, Cond.instanceMethod yX0_hasMouse, Cond.selects RX0 yX0_hasMouse yX0_hasMouse, Cond.code yX0_hasMouse cX0_hasMouse 2 (some .boolean), Cond.fieldLink RX0 40 "BellTheCat$House" "miceCount" "I", Cond.methodLink RX7 156 yX0_dangerAt, Cond.instanceMethod yX0_dangerAt, Cond.selects RX0 yX0_dangerAt yX0_dangerAt, Cond.code yX0_dangerAt cX0_dangerAt 3 (some .int), Cond.fieldLink RX0 24 "BellTheCat$House" "noises" "[I", Cond.fieldLink RX0 9 "BellTheCat$House" "kinds" "[I", Cond.fieldLink RX0 15 "BellTheCat$House" "speeds" "[I", Cond.methodLink RX0 70 yX0_hasStep, Cond.methodLink RX0 64 yX0_hasMouse, Cond.static yX7_dangerOf, Cond.initialized RX7, Cond.code yX7_dangerOf cX7_dangerOf 4 (some .int)]
def wsX7_danger_r2 : List Cond := [Cond.methodLink RX7 317 Lib.Math.max.name, Cond.static Lib.Math.max.name, Cond.initialized "java/lang/Math", Cond.code Lib.Math.max.name Lib.Math.max.code 2 (some .int), Cond.methodLink RX7 272 Lib.Math.min.name, Cond.static Lib.Math.min.name, Cond.code Lib.Math.min.name Lib.Math.min.code 2 (some .int)]
def wsX7_danger : List Cond := .code yX7_danger cX7_danger 3 (some .int) :: ((wsX7_danger_r1 ++ wsX7_danger_r2) ++ wsX70 ++ wsX00)
def wsX7_put_r1 : List Cond := [Cond.fieldLink RX7 19 "BellTheCat" "told" "LBellTheCat$House;", Cond.fieldLink RX7 29 "BellTheCat" "now" "LBellTheCat$Team;", Cond.fieldLink RX7 36 "BellTheCat" "latest" "LBellTheCat$Undo;", Cond.methodLink RX7 128 yX0_hasStep, Cond.instanceMethod yX0_hasStep, Cond.selects RX0 yX0_hasStep yX0_hasStep, Cond.initialized RX0, Cond.code yX0_hasStep cX0_hasStep 2 (some .boolean), Cond.fieldLink RX0 43 "BellTheCat$House" "stepCount" "I", Cond.methodLink RX7 105 yX0_hasMouse, Cond.instanceMethod yX0_hasMouse, Cond.selects RX0 yX0_hasMouse yX0_hasMouse, Cond.code yX0_hasMouse cX0_hasMouse 2 (some .boolean), Cond.fieldLink RX0 40 "BellTheCat$House" "miceCount" "I", Cond.methodLink RX7 121 yX4_lives, Cond.instanceMethod yX4_lives, Cond.selects RX4 yX4_lives yX4_lives, Cond.initialized RX4, Cond.code yX4_lives cX4_lives 2 (some .boolean), Cond.fieldLink RX4 28 "BellTheCat$Team" "living" "I", Cond.methodLink RX7 160 yX6_remember, Cond.instanceMethod yX6_remember, Cond.selects RX6 yX6_remember yX6_remember, Cond.initialized RX6]
def wsX7_put_r2 : List Cond := [Cond.code yX6_remember cX6_remember 2 none, Cond.fieldLink RX6 11 "BellTheCat$Undo" "ring" "[LBellTheCat$Team;", Cond.fieldLink RX6 18 "BellTheCat$Undo" "next" "I", Cond.fieldLink RX6 26 "BellTheCat$Undo" "depth" "I", Cond.methodLink RX6 29 Lib.Math.min.name, Cond.static Lib.Math.min.name, Cond.initialized "java/lang/Math", Cond.code Lib.Math.min.name Lib.Math.min.code 2 (some .int), Cond.static yX7_copyTeam, Cond.initialized RX7, Cond.code yX7_copyTeam cX7_copyTeam 3 none, Cond.fieldLink RX7 184 "BellTheCat$Team" "nights" "I", Cond.fieldLink RX7 223 "BellTheCat$Team" "living" "I", Cond.fieldLink RX7 174 "BellTheCat$Team" "belled" "Z", Cond.methodLink RX7 164 yX4_setDoer, Cond.instanceMethod yX4_setDoer, Cond.selects RX4 yX4_setDoer yX4_setDoer, Cond.code yX4_setDoer cX4_setDoer 3 none, Cond.fieldLink RX4 9 "BellTheCat$Team" "doers" "[I", Cond.methodLink RX7 168 yX4_filledSteps, Cond.instanceMethod yX4_filledSteps, Cond.selects RX4 yX4_filledSteps yX4_filledSteps, Cond.code yX4_filledSteps cX4_filledSteps 3 (some .int)]
def wsX7_put : List Cond := .code yX7_put cX7_put 3 (some .int) :: ((wsX7_put_r1 ++ wsX7_put_r2) ++ wsX70 ++ wsX00 ++ wsX40 ++ wsX60)
def wsX7_clear_r1 : List Cond := [Cond.fieldLink RX7 36 "BellTheCat" "latest" "LBellTheCat$Undo;", Cond.fieldLink RX7 29 "BellTheCat" "now" "LBellTheCat$Team;", Cond.methodLink RX7 160 yX6_remember, Cond.instanceMethod yX6_remember, Cond.selects RX6 yX6_remember yX6_remember, Cond.initialized RX6, Cond.code yX6_remember cX6_remember 2 none, Cond.fieldLink RX6 11 "BellTheCat$Undo" "ring" "[LBellTheCat$Team;", Cond.fieldLink RX6 18 "BellTheCat$Undo" "next" "I", Cond.fieldLink RX6 26 "BellTheCat$Undo" "depth" "I", Cond.methodLink RX6 29 Lib.Math.min.name, Cond.static Lib.Math.min.name, Cond.initialized "java/lang/Math", Cond.code Lib.Math.min.name Lib.Math.min.code 2 (some .int), Cond.static yX7_copyTeam, Cond.initialized RX7, Cond.code yX7_copyTeam cX7_copyTeam 3 none, Cond.fieldLink RX7 184 "BellTheCat$Team" "nights" "I", Cond.fieldLink RX7 223 "BellTheCat$Team" "living" "I", Cond.fieldLink RX7 174 "BellTheCat$Team" "belled" "Z", Cond.methodLink RX7 168 yX4_filledSteps, Cond.instanceMethod yX4_filledSteps, Cond.selects RX4 yX4_filledSteps yX4_filledSteps, Cond.initialized RX4]
def wsX7_clear_r2 : List Cond := [Cond.code yX4_filledSteps cX4_filledSteps 3 (some .int), Cond.fieldLink RX4 9 "BellTheCat$Team" "doers" "[I", Cond.methodLink RX7 171 yX4_dismiss, Cond.instanceMethod yX4_dismiss, Cond.selects RX4 yX4_dismiss yX4_dismiss, Cond.code yX4_dismiss cX4_dismiss 1 none, Cond.methodLink RX4 15 yJ7_fill_53178, Cond.static yJ7_fill_53178, Cond.initialized RJ7, Cond.code yJ7_fill_53178 cJ7_fill_53178 4 none]
def wsX7_clear : List Cond := .code yX7_clear cX7_clear 2 (some .int) :: ((wsX7_clear_r1 ++ wsX7_clear_r2) ++ wsX70 ++ wsX60 ++ wsX40)
def wsX7_drawOf : List Cond := .code yX7_drawOf cX7_drawOf 4 (some .int) :: ([.constantLong RX7 311 (7919), .constantLong RX7 313 (6151), .constantLong RX7 315 (65521), .constantLong RX7 218 (10)])
def wsX7_caughtBy_r1 : List Cond := [Cond.fieldLink RX7 19 "BellTheCat" "told" "LBellTheCat$House;", Cond.fieldLink RX7 178 "BellTheCat$House" "stepCount" "I", Cond.fieldLink RX7 29 "BellTheCat" "now" "LBellTheCat$Team;", Cond.methodLink RX7 134 yX4_doerOf, Cond.instanceMethod yX4_doerOf, Cond.selects RX4 yX4_doerOf yX4_doerOf, Cond.initialized RX4, Cond.code yX4_doerOf cX4_doerOf 2 (some .int), Cond.fieldLink RX4 9 "BellTheCat$Team" "doers" "[I", Cond.methodLink RX7 308 yX7_drawOf, Cond.static yX7_drawOf, Cond.initialized RX7, Cond.code yX7_drawOf cX7_drawOf 4 (some .int), Cond.constantLong RX7 311 (7919), Cond.constantLong RX7 313 (6151), Cond.constantLong RX7 315 (65521), Cond.constantLong RX7 218 (10), Cond.methodLink RX7 156 yX0_dangerAt, Cond.instanceMethod yX0_dangerAt, Cond.selects RX0 yX0_dangerAt yX0_dangerAt, Cond.initialized RX0, Cond.code yX0_dangerAt cX0_dangerAt 3 (some .int), Cond.fieldLink RX0 24 "BellTheCat$House" "noises" "[I", Cond.fieldLink RX0 9 "BellTheCat$House" "kinds" "[I"]
def wsX7_caughtBy_r2 : List Cond := [Cond.fieldLink RX0 15 "BellTheCat$House" "speeds" "[I", Cond.methodLink RX0 70 yX0_hasStep, Cond.instanceMethod yX0_hasStep, Cond.selects RX0 yX0_hasStep yX0_hasStep, Cond.code yX0_hasStep cX0_hasStep 2 (some .boolean), Cond.fieldLink RX0 43 "BellTheCat$House" "stepCount" "I", Cond.methodLink RX0 64 yX0_hasMouse, Cond.instanceMethod yX0_hasMouse, Cond.selects RX0 yX0_hasMouse yX0_hasMouse, Cond.code yX0_hasMouse cX0_hasMouse 2 (some .boolean), Cond.fieldLink RX0 40 "BellTheCat$House" "miceCount" "I", Cond.static yX7_dangerOf, Cond.code yX7_dangerOf cX7_dangerOf 4 (some .int), Cond.methodLink RX7 317 Lib.Math.max.name, Cond.static Lib.Math.max.name, Cond.initialized "java/lang/Math", Cond.code Lib.Math.max.name Lib.Math.max.code 2 (some .int), Cond.methodLink RX7 272 Lib.Math.min.name, Cond.static Lib.Math.min.name, Cond.code Lib.Math.min.name Lib.Math.min.code 2 (some .int)]
def wsX7_caughtBy : List Cond := .code yX7_caughtBy cX7_caughtBy 4 (some .int) :: ((wsX7_caughtBy_r1 ++ wsX7_caughtBy_r2) ++ wsX70 ++ wsX00 ++ wsX40)
def wsX7_night_r1 : List Cond := [Cond.fieldLink RX7 29 "BellTheCat" "now" "LBellTheCat$Team;", Cond.fieldLink RX7 174 "BellTheCat$Team" "belled" "Z", Cond.fieldLink RX7 19 "BellTheCat" "told" "LBellTheCat$House;", Cond.fieldLink RX7 178 "BellTheCat$House" "stepCount" "I", Cond.fieldLink RX7 184 "BellTheCat$Team" "nights" "I", Cond.fieldLink RX7 36 "BellTheCat" "latest" "LBellTheCat$Undo;", Cond.methodLink RX7 69 yX7_within, Cond.static yX7_within, Cond.initialized RX7, Cond.code yX7_within cX7_within 2 (some .boolean), Cond.methodLink RX7 181 yX4_isWhole, Cond.instanceMethod yX4_isWhole, Cond.selects RX4 yX4_isWhole yX4_isWhole, Cond.initialized RX4, Cond.code yX4_isWhole cX4_isWhole 3 (some .boolean), Cond.methodLink RX4 39 yX4_doerOf, Cond.instanceMethod yX4_doerOf, Cond.selects RX4 yX4_doerOf yX4_doerOf, Cond.code yX4_doerOf cX4_doerOf 2 (some .int), Cond.fieldLink RX4 9 "BellTheCat$Team" "doers" "[I", Cond.methodLink RX4 35 yX4_lives, Cond.instanceMethod yX4_lives, Cond.selects RX4 yX4_lives yX4_lives, Cond.code yX4_lives cX4_lives 2 (some .boolean)]
def wsX7_night_r2 : List Cond := [Cond.fieldLink RX4 28 "BellTheCat$Team" "living" "I", Cond.methodLink RX7 160 yX6_remember, Cond.instanceMethod yX6_remember, Cond.selects RX6 yX6_remember yX6_remember, Cond.initialized RX6, Cond.code yX6_remember cX6_remember 2 none, Cond.fieldLink RX6 11 "BellTheCat$Undo" "ring" "[LBellTheCat$Team;", Cond.fieldLink RX6 18 "BellTheCat$Undo" "next" "I", Cond.fieldLink RX6 26 "BellTheCat$Undo" "depth" "I", Cond.methodLink RX6 29 Lib.Math.min.name, Cond.static Lib.Math.min.name, Cond.initialized "java/lang/Math", Cond.code Lib.Math.min.name Lib.Math.min.code 2 (some .int), Cond.static yX7_copyTeam, Cond.code yX7_copyTeam cX7_copyTeam 3 none, Cond.fieldLink RX7 223 "BellTheCat$Team" "living" "I", Cond.methodLink RX7 187 yX7_caughtBy, Cond.instanceMethod yX7_caughtBy, Cond.selects RX7 yX7_caughtBy yX7_caughtBy, Cond.code yX7_caughtBy cX7_caughtBy 4 (some .int), Cond.methodLink RX7 134 yX4_doerOf, Cond.methodLink RX7 308 yX7_drawOf, Cond.static yX7_drawOf, Cond.code yX7_drawOf cX7_drawOf 4 (some .int)]
def wsX7_night_r3 : List Cond := [Cond.constantLong RX7 311 (7919), Cond.constantLong RX7 313 (6151), Cond.constantLong RX7 315 (65521), Cond.constantLong RX7 218 (10), Cond.methodLink RX7 156 yX0_dangerAt, Cond.instanceMethod yX0_dangerAt, Cond.selects RX0 yX0_dangerAt yX0_dangerAt, Cond.initialized RX0, Cond.code yX0_dangerAt cX0_dangerAt 3 (some .int), Cond.fieldLink RX0 24 "BellTheCat$House" "noises" "[I", Cond.fieldLink RX0 9 "BellTheCat$House" "kinds" "[I", Cond.fieldLink RX0 15 "BellTheCat$House" "speeds" "[I", Cond.methodLink RX0 70 yX0_hasStep, Cond.instanceMethod yX0_hasStep, Cond.selects RX0 yX0_hasStep yX0_hasStep, Cond.code yX0_hasStep cX0_hasStep 2 (some .boolean), Cond.fieldLink RX0 43 "BellTheCat$House" "stepCount" "I", Cond.methodLink RX0 64 yX0_hasMouse, Cond.instanceMethod yX0_hasMouse, Cond.selects RX0 yX0_hasMouse yX0_hasMouse, Cond.code yX0_hasMouse cX0_hasMouse 2 (some .boolean), Cond.fieldLink RX0 40 "BellTheCat$House" "miceCount" "I", Cond.static yX7_dangerOf, Cond.code yX7_dangerOf cX7_dangerOf 4 (some .int)]
def wsX7_night_r4 : List Cond := [Cond.methodLink RX7 317 Lib.Math.max.name, Cond.static Lib.Math.max.name, Cond.code Lib.Math.max.name Lib.Math.max.code 2 (some .int), Cond.methodLink RX7 272 Lib.Math.min.name, Cond.methodLink RX7 190 yX4_lose, Cond.instanceMethod yX4_lose, Cond.selects RX4 yX4_lose yX4_lose, Cond.code yX4_lose cX4_lose 3 none]
def wsX7_night : List Cond := .code yX7_night cX7_night 3 (some .int) :: ((wsX7_night_r1 ++ (wsX7_night_r2 ++ (wsX7_night_r3 ++ wsX7_night_r4))) ++ wsX70 ++ wsX40 ++ wsX00 ++ wsX60)
def wsX7_undo : List Cond := .code yX7_undo cX7_undo 1 (some .int) :: ([.fieldLink RX7 36 "BellTheCat" "latest" "LBellTheCat$Undo;", .fieldLink RX7 29 "BellTheCat" "now" "LBellTheCat$Team;", .fieldLink RX7 96 "BellTheCat$Undo" "depth" "I", .methodLink RX7 193 yX6_restore, .instanceMethod yX6_restore, .selects RX6 yX6_restore yX6_restore, .initialized RX6, .code yX6_restore cX6_restore 2 (some .boolean), .fieldLink RX6 26 "BellTheCat$Undo" "depth" "I", .fieldLink RX6 18 "BellTheCat$Undo" "next" "I", .fieldLink RX6 11 "BellTheCat$Undo" "ring" "[LBellTheCat$Team;", .static yX7_copyTeam, .initialized RX7, .code yX7_copyTeam cX7_copyTeam 3 none, .fieldLink RX7 184 "BellTheCat$Team" "nights" "I", .fieldLink RX7 223 "BellTheCat$Team" "living" "I", .fieldLink RX7 174 "BellTheCat$Team" "belled" "Z"] ++ wsX70 ++ wsX60 ++ wsX40)
def wsX7_keep : List Cond := .code yX7_keep cX7_keep 2 (some .int) :: ([.fieldLink RX7 29 "BellTheCat" "now" "LBellTheCat$Team;", .fieldLink RX7 40 "BellTheCat" "kept" "[LBellTheCat$Team;", .fieldLink RX7 44 "BellTheCat" "isKept" "[Z", .fieldLink RX7 184 "BellTheCat$Team" "nights" "I", .methodLink RX7 69 yX7_within, .static yX7_within, .initialized RX7, .code yX7_within cX7_within 2 (some .boolean), .methodLink RX7 197 yX7_copyTeam, .static yX7_copyTeam, .code yX7_copyTeam cX7_copyTeam 3 none, .fieldLink RX7 223 "BellTheCat$Team" "living" "I", .fieldLink RX7 174 "BellTheCat$Team" "belled" "Z"] ++ wsX70 ++ wsX40)
def wsX7_back : List Cond := .code yX7_back cX7_back 2 (some .int) :: ([.fieldLink RX7 44 "BellTheCat" "isKept" "[Z", .fieldLink RX7 40 "BellTheCat" "kept" "[LBellTheCat$Team;", .fieldLink RX7 29 "BellTheCat" "now" "LBellTheCat$Team;", .fieldLink RX7 36 "BellTheCat" "latest" "LBellTheCat$Undo;", .fieldLink RX7 96 "BellTheCat$Undo" "depth" "I", .fieldLink RX7 184 "BellTheCat$Team" "nights" "I", .methodLink RX7 69 yX7_within, .static yX7_within, .initialized RX7, .code yX7_within cX7_within 2 (some .boolean), .methodLink RX7 197 yX7_copyTeam, .static yX7_copyTeam, .code yX7_copyTeam cX7_copyTeam 3 none, .fieldLink RX7 223 "BellTheCat$Team" "living" "I", .fieldLink RX7 174 "BellTheCat$Team" "belled" "Z"] ++ wsX70 ++ wsX60 ++ wsX40)
def wsX7_isPart : List Cond := .code yX7_isPart cX7_isPart 1 (some .boolean) :: ([.methodLink RX7 69 yX7_within, .static yX7_within, .initialized RX7, .code yX7_within cX7_within 2 (some .boolean)])
def wsX7_comeUpTo_r1 : List Cond := [Cond.fieldLink RX7 19 "BellTheCat" "told" "LBellTheCat$House;", Cond.fieldLink RX7 29 "BellTheCat" "now" "LBellTheCat$Team;", Cond.methodLink RX7 134 yX4_doerOf, Cond.instanceMethod yX4_doerOf, Cond.selects RX4 yX4_doerOf yX4_doerOf, Cond.initialized RX4, Cond.code yX4_doerOf cX4_doerOf 2 (some .int), Cond.fieldLink RX4 9 "BellTheCat$Team" "doers" "[I", Cond.methodLink RX7 156 yX0_dangerAt, Cond.instanceMethod yX0_dangerAt, Cond.selects RX0 yX0_dangerAt yX0_dangerAt, Cond.initialized RX0, Cond.code yX0_dangerAt cX0_dangerAt 3 (some .int), Cond.fieldLink RX0 24 "BellTheCat$House" "noises" "[I", Cond.fieldLink RX0 9 "BellTheCat$House" "kinds" "[I", Cond.fieldLink RX0 15 "BellTheCat$House" "speeds" "[I", Cond.methodLink RX0 70 yX0_hasStep, Cond.instanceMethod yX0_hasStep, Cond.selects RX0 yX0_hasStep yX0_hasStep, Cond.code yX0_hasStep cX0_hasStep 2 (some .boolean), Cond.fieldLink RX0 43 "BellTheCat$House" "stepCount" "I", Cond.methodLink RX0 64 yX0_hasMouse, Cond.instanceMethod yX0_hasMouse, Cond.selects RX0 yX0_hasMouse yX0_hasMouse]
def wsX7_comeUpTo_r2 : List Cond := [Cond.code yX0_hasMouse cX0_hasMouse 2 (some .boolean), Cond.fieldLink RX0 40 "BellTheCat$House" "miceCount" "I", Cond.static yX7_dangerOf, Cond.initialized RX7, Cond.code yX7_dangerOf cX7_dangerOf 4 (some .int), Cond.methodLink RX7 317 Lib.Math.max.name, Cond.static Lib.Math.max.name, Cond.initialized "java/lang/Math", Cond.code Lib.Math.max.name Lib.Math.max.code 2 (some .int), Cond.methodLink RX7 272 Lib.Math.min.name, Cond.static Lib.Math.min.name, Cond.code Lib.Math.min.name Lib.Math.min.code 2 (some .int)]
def wsX7_comeUpTo : List Cond := .code yX7_comeUpTo cX7_comeUpTo 5 (some .long) :: ((wsX7_comeUpTo_r1 ++ wsX7_comeUpTo_r2) ++ wsX70 ++ wsX40 ++ wsX00)
def wsX7_commonDivisor : List Cond := .code yX7_commonDivisor cX7_commonDivisor 11 (some .long) :: ([])
def wsX7_partOf : List Cond := .code yX7_partOf cX7_partOf 7 (some .long) :: ([.methodLink RX7 322 yX7_commonDivisor, .static yX7_commonDivisor, .initialized RX7, .code yX7_commonDivisor cX7_commonDivisor 11 (some .long)])
def wsX7_through_r1 : List Cond := [Cond.fieldLink RX7 29 "BellTheCat" "now" "LBellTheCat$Team;", Cond.fieldLink RX7 19 "BellTheCat" "told" "LBellTheCat$House;", Cond.fieldLink RX7 178 "BellTheCat$House" "stepCount" "I", Cond.methodLink RX7 201 yX7_isPart, Cond.static yX7_isPart, Cond.initialized RX7, Cond.code yX7_isPart cX7_isPart 1 (some .boolean), Cond.methodLink RX7 69 yX7_within, Cond.static yX7_within, Cond.code yX7_within cX7_within 2 (some .boolean), Cond.methodLink RX7 181 yX4_isWhole, Cond.instanceMethod yX4_isWhole, Cond.selects RX4 yX4_isWhole yX4_isWhole, Cond.initialized RX4, Cond.code yX4_isWhole cX4_isWhole 3 (some .boolean), Cond.methodLink RX4 39 yX4_doerOf, Cond.instanceMethod yX4_doerOf, Cond.selects RX4 yX4_doerOf yX4_doerOf, Cond.code yX4_doerOf cX4_doerOf 2 (some .int), Cond.fieldLink RX4 9 "BellTheCat$Team" "doers" "[I", Cond.methodLink RX4 35 yX4_lives, Cond.instanceMethod yX4_lives, Cond.selects RX4 yX4_lives yX4_lives, Cond.code yX4_lives cX4_lives 2 (some .boolean)]
def wsX7_through_r2 : List Cond := [Cond.fieldLink RX4 28 "BellTheCat$Team" "living" "I", Cond.methodLink RX7 204 yX7_comeUpTo, Cond.instanceMethod yX7_comeUpTo, Cond.selects RX7 yX7_comeUpTo yX7_comeUpTo, Cond.code yX7_comeUpTo cX7_comeUpTo 5 (some .long), Cond.methodLink RX7 134 yX4_doerOf, Cond.methodLink RX7 156 yX0_dangerAt, Cond.instanceMethod yX0_dangerAt, Cond.selects RX0 yX0_dangerAt yX0_dangerAt, Cond.initialized RX0, Cond.code yX0_dangerAt cX0_dangerAt 3 (some .int), Cond.fieldLink RX0 24 "BellTheCat$House" "noises" "[I", Cond.fieldLink RX0 9 "BellTheCat$House" "kinds" "[I", Cond.fieldLink RX0 15 "BellTheCat$House" "speeds" "[I", Cond.methodLink RX0 70 yX0_hasStep, Cond.instanceMethod yX0_hasStep, Cond.selects RX0 yX0_hasStep yX0_hasStep, Cond.code yX0_hasStep cX0_hasStep 2 (some .boolean), Cond.fieldLink RX0 43 "BellTheCat$House" "stepCount" "I", Cond.methodLink RX0 64 yX0_hasMouse, Cond.instanceMethod yX0_hasMouse, Cond.selects RX0 yX0_hasMouse yX0_hasMouse, Cond.code yX0_hasMouse cX0_hasMouse 2 (some .boolean), Cond.fieldLink RX0 40 "BellTheCat$House" "miceCount" "I"]
def wsX7_through_r3 : List Cond := [Cond.static yX7_dangerOf, Cond.code yX7_dangerOf cX7_dangerOf 4 (some .int), Cond.methodLink RX7 317 Lib.Math.max.name, Cond.static Lib.Math.max.name, Cond.initialized "java/lang/Math", Cond.code Lib.Math.max.name Lib.Math.max.code 2 (some .int), Cond.methodLink RX7 272 Lib.Math.min.name, Cond.static Lib.Math.min.name, Cond.code Lib.Math.min.name Lib.Math.min.code 2 (some .int), Cond.methodLink RX7 208 yX7_tenTo, Cond.static yX7_tenTo, Cond.code yX7_tenTo cX7_tenTo 1 (some .long), Cond.methodLink RX7 281 yX7_power, Cond.static yX7_power, Cond.code yX7_power cX7_power 5 (some .long), Cond.methodLink RX7 211 yX7_partOf, Cond.static yX7_partOf, Cond.code yX7_partOf cX7_partOf 7 (some .long), Cond.methodLink RX7 322 yX7_commonDivisor, Cond.static yX7_commonDivisor, Cond.code yX7_commonDivisor cX7_commonDivisor 11 (some .long)]
def wsX7_through : List Cond := .code yX7_through cX7_through 2 (some .int) :: ((wsX7_through_r1 ++ (wsX7_through_r2 ++ wsX7_through_r3)) ++ wsX70 ++ wsX00 ++ wsX40)
def wsX7_caughtAt_r1 : List Cond := [Cond.fieldLink RX7 19 "BellTheCat" "told" "LBellTheCat$House;", Cond.fieldLink RX7 29 "BellTheCat" "now" "LBellTheCat$Team;", Cond.methodLink RX7 204 yX7_comeUpTo, Cond.instanceMethod yX7_comeUpTo, Cond.selects RX7 yX7_comeUpTo yX7_comeUpTo, Cond.initialized RX7, Cond.code yX7_comeUpTo cX7_comeUpTo 5 (some .long), Cond.methodLink RX7 134 yX4_doerOf, Cond.instanceMethod yX4_doerOf, Cond.selects RX4 yX4_doerOf yX4_doerOf, Cond.initialized RX4, Cond.code yX4_doerOf cX4_doerOf 2 (some .int), Cond.fieldLink RX4 9 "BellTheCat$Team" "doers" "[I", Cond.methodLink RX7 156 yX0_dangerAt, Cond.instanceMethod yX0_dangerAt, Cond.selects RX0 yX0_dangerAt yX0_dangerAt, Cond.initialized RX0, Cond.code yX0_dangerAt cX0_dangerAt 3 (some .int), Cond.fieldLink RX0 24 "BellTheCat$House" "noises" "[I", Cond.fieldLink RX0 9 "BellTheCat$House" "kinds" "[I", Cond.fieldLink RX0 15 "BellTheCat$House" "speeds" "[I", Cond.methodLink RX0 70 yX0_hasStep, Cond.instanceMethod yX0_hasStep, Cond.selects RX0 yX0_hasStep yX0_hasStep]
def wsX7_caughtAt_r2 : List Cond := [Cond.code yX0_hasStep cX0_hasStep 2 (some .boolean), Cond.fieldLink RX0 43 "BellTheCat$House" "stepCount" "I", Cond.methodLink RX0 64 yX0_hasMouse, Cond.instanceMethod yX0_hasMouse, Cond.selects RX0 yX0_hasMouse yX0_hasMouse, Cond.code yX0_hasMouse cX0_hasMouse 2 (some .boolean), Cond.fieldLink RX0 40 "BellTheCat$House" "miceCount" "I", Cond.static yX7_dangerOf, Cond.code yX7_dangerOf cX7_dangerOf 4 (some .int), Cond.methodLink RX7 317 Lib.Math.max.name, Cond.static Lib.Math.max.name, Cond.initialized "java/lang/Math", Cond.code Lib.Math.max.name Lib.Math.max.code 2 (some .int), Cond.methodLink RX7 272 Lib.Math.min.name, Cond.static Lib.Math.min.name, Cond.code Lib.Math.min.name Lib.Math.min.code 2 (some .int)]
def wsX7_caughtAt : List Cond := .code yX7_caughtAt cX7_caughtAt 2 (some .long) :: ((wsX7_caughtAt_r1 ++ wsX7_caughtAt_r2) ++ wsX70 ++ wsX40 ++ wsX00)
def wsX7_fails_r1 : List Cond := [Cond.fieldLink RX7 19 "BellTheCat" "told" "LBellTheCat$House;", Cond.fieldLink RX7 29 "BellTheCat" "now" "LBellTheCat$Team;", Cond.fieldLink RX7 178 "BellTheCat$House" "stepCount" "I", Cond.methodLink RX7 128 yX0_hasStep, Cond.instanceMethod yX0_hasStep, Cond.selects RX0 yX0_hasStep yX0_hasStep, Cond.initialized RX0, Cond.code yX0_hasStep cX0_hasStep 2 (some .boolean), Cond.fieldLink RX0 43 "BellTheCat$House" "stepCount" "I", Cond.methodLink RX7 201 yX7_isPart, Cond.static yX7_isPart, Cond.initialized RX7, Cond.code yX7_isPart cX7_isPart 1 (some .boolean), Cond.methodLink RX7 69 yX7_within, Cond.static yX7_within, Cond.code yX7_within cX7_within 2 (some .boolean), Cond.methodLink RX7 181 yX4_isWhole, Cond.instanceMethod yX4_isWhole, Cond.selects RX4 yX4_isWhole yX4_isWhole, Cond.initialized RX4, Cond.code yX4_isWhole cX4_isWhole 3 (some .boolean), Cond.methodLink RX4 39 yX4_doerOf, Cond.instanceMethod yX4_doerOf, Cond.selects RX4 yX4_doerOf yX4_doerOf]
def wsX7_fails_r2 : List Cond := [Cond.code yX4_doerOf cX4_doerOf 2 (some .int), Cond.fieldLink RX4 9 "BellTheCat$Team" "doers" "[I", Cond.methodLink RX4 35 yX4_lives, Cond.instanceMethod yX4_lives, Cond.selects RX4 yX4_lives yX4_lives, Cond.code yX4_lives cX4_lives 2 (some .boolean), Cond.fieldLink RX4 28 "BellTheCat$Team" "living" "I", Cond.methodLink RX7 215 yX7_caughtAt, Cond.instanceMethod yX7_caughtAt, Cond.selects RX7 yX7_caughtAt yX7_caughtAt, Cond.code yX7_caughtAt cX7_caughtAt 2 (some .long), Cond.methodLink RX7 204 yX7_comeUpTo, Cond.instanceMethod yX7_comeUpTo, Cond.selects RX7 yX7_comeUpTo yX7_comeUpTo, Cond.code yX7_comeUpTo cX7_comeUpTo 5 (some .long), Cond.methodLink RX7 134 yX4_doerOf, Cond.methodLink RX7 156 yX0_dangerAt, Cond.instanceMethod yX0_dangerAt, Cond.selects RX0 yX0_dangerAt yX0_dangerAt, Cond.code yX0_dangerAt cX0_dangerAt 3 (some .int), Cond.fieldLink RX0 24 "BellTheCat$House" "noises" "[I", Cond.fieldLink RX0 9 "BellTheCat$House" "kinds" "[I", Cond.fieldLink RX0 15 "BellTheCat$House" "speeds" "[I", Cond.methodLink RX0 70 yX0_hasStep]
def wsX7_fails_r3 : List Cond := [Cond.methodLink RX0 64 yX0_hasMouse, Cond.instanceMethod yX0_hasMouse, Cond.selects RX0 yX0_hasMouse yX0_hasMouse, Cond.code yX0_hasMouse cX0_hasMouse 2 (some .boolean), Cond.fieldLink RX0 40 "BellTheCat$House" "miceCount" "I", Cond.static yX7_dangerOf, Cond.code yX7_dangerOf cX7_dangerOf 4 (some .int), Cond.methodLink RX7 317 Lib.Math.max.name, Cond.static Lib.Math.max.name, Cond.initialized "java/lang/Math", Cond.code Lib.Math.max.name Lib.Math.max.code 2 (some .int), Cond.methodLink RX7 272 Lib.Math.min.name, Cond.static Lib.Math.min.name, Cond.code Lib.Math.min.name Lib.Math.min.code 2 (some .int), Cond.methodLink RX7 208 yX7_tenTo, Cond.static yX7_tenTo, Cond.code yX7_tenTo cX7_tenTo 1 (some .long), Cond.methodLink RX7 281 yX7_power, Cond.static yX7_power, Cond.code yX7_power cX7_power 5 (some .long), Cond.methodLink RX7 211 yX7_partOf, Cond.static yX7_partOf, Cond.code yX7_partOf cX7_partOf 7 (some .long), Cond.methodLink RX7 322 yX7_commonDivisor]
def wsX7_fails_r4 : List Cond := [Cond.static yX7_commonDivisor, Cond.code yX7_commonDivisor cX7_commonDivisor 11 (some .long)]
def wsX7_fails : List Cond := .code yX7_fails cX7_fails 3 (some .int) :: ((wsX7_fails_r1 ++ (wsX7_fails_r2 ++ (wsX7_fails_r3 ++ wsX7_fails_r4))) ++ wsX70 ++ wsX00 ++ wsX40)
def wsX7_loss_r1 : List Cond := [Cond.fieldLink RX7 29 "BellTheCat" "now" "LBellTheCat$Team;", Cond.fieldLink RX7 19 "BellTheCat" "told" "LBellTheCat$House;", Cond.fieldLink RX7 178 "BellTheCat$House" "stepCount" "I", Cond.constantLong RX7 218 (10), Cond.methodLink RX7 201 yX7_isPart, Cond.static yX7_isPart, Cond.initialized RX7, Cond.code yX7_isPart cX7_isPart 1 (some .boolean), Cond.methodLink RX7 69 yX7_within, Cond.static yX7_within, Cond.code yX7_within cX7_within 2 (some .boolean), Cond.methodLink RX7 181 yX4_isWhole, Cond.instanceMethod yX4_isWhole, Cond.selects RX4 yX4_isWhole yX4_isWhole, Cond.initialized RX4, Cond.code yX4_isWhole cX4_isWhole 3 (some .boolean), Cond.methodLink RX4 39 yX4_doerOf, Cond.instanceMethod yX4_doerOf, Cond.selects RX4 yX4_doerOf yX4_doerOf, Cond.code yX4_doerOf cX4_doerOf 2 (some .int), Cond.fieldLink RX4 9 "BellTheCat$Team" "doers" "[I", Cond.methodLink RX4 35 yX4_lives, Cond.instanceMethod yX4_lives, Cond.selects RX4 yX4_lives yX4_lives]
def wsX7_loss_r2 : List Cond := [Cond.code yX4_lives cX4_lives 2 (some .boolean), Cond.fieldLink RX4 28 "BellTheCat$Team" "living" "I", Cond.methodLink RX7 134 yX4_doerOf, Cond.methodLink RX7 220 yX0_fearOf, Cond.instanceMethod yX0_fearOf, Cond.selects RX0 yX0_fearOf yX0_fearOf, Cond.initialized RX0, Cond.code yX0_fearOf cX0_fearOf 2 (some .int), Cond.fieldLink RX0 18 "BellTheCat$House" "fears" "[I", Cond.methodLink RX0 64 yX0_hasMouse, Cond.instanceMethod yX0_hasMouse, Cond.selects RX0 yX0_hasMouse yX0_hasMouse, Cond.code yX0_hasMouse cX0_hasMouse 2 (some .boolean), Cond.fieldLink RX0 40 "BellTheCat$House" "miceCount" "I", Cond.methodLink RX7 215 yX7_caughtAt, Cond.instanceMethod yX7_caughtAt, Cond.selects RX7 yX7_caughtAt yX7_caughtAt, Cond.code yX7_caughtAt cX7_caughtAt 2 (some .long), Cond.methodLink RX7 204 yX7_comeUpTo, Cond.instanceMethod yX7_comeUpTo, Cond.selects RX7 yX7_comeUpTo yX7_comeUpTo, Cond.code yX7_comeUpTo cX7_comeUpTo 5 (some .long), Cond.methodLink RX7 156 yX0_dangerAt, Cond.instanceMethod yX0_dangerAt]
def wsX7_loss_r3 : List Cond := [Cond.selects RX0 yX0_dangerAt yX0_dangerAt, Cond.code yX0_dangerAt cX0_dangerAt 3 (some .int), Cond.fieldLink RX0 24 "BellTheCat$House" "noises" "[I", Cond.fieldLink RX0 9 "BellTheCat$House" "kinds" "[I", Cond.fieldLink RX0 15 "BellTheCat$House" "speeds" "[I", Cond.methodLink RX0 70 yX0_hasStep, Cond.instanceMethod yX0_hasStep, Cond.selects RX0 yX0_hasStep yX0_hasStep, Cond.code yX0_hasStep cX0_hasStep 2 (some .boolean), Cond.fieldLink RX0 43 "BellTheCat$House" "stepCount" "I", Cond.static yX7_dangerOf, Cond.code yX7_dangerOf cX7_dangerOf 4 (some .int), Cond.methodLink RX7 317 Lib.Math.max.name, Cond.static Lib.Math.max.name, Cond.initialized "java/lang/Math", Cond.code Lib.Math.max.name Lib.Math.max.code 2 (some .int), Cond.methodLink RX7 272 Lib.Math.min.name, Cond.static Lib.Math.min.name, Cond.code Lib.Math.min.name Lib.Math.min.code 2 (some .int), Cond.methodLink RX7 208 yX7_tenTo, Cond.static yX7_tenTo, Cond.code yX7_tenTo cX7_tenTo 1 (some .long), Cond.methodLink RX7 281 yX7_power, Cond.static yX7_power]
def wsX7_loss_r4 : List Cond := [Cond.code yX7_power cX7_power 5 (some .long), Cond.methodLink RX7 211 yX7_partOf, Cond.static yX7_partOf, Cond.code yX7_partOf cX7_partOf 7 (some .long), Cond.methodLink RX7 322 yX7_commonDivisor, Cond.static yX7_commonDivisor, Cond.code yX7_commonDivisor cX7_commonDivisor 11 (some .long)]
def wsX7_loss : List Cond := .code yX7_loss cX7_loss 5 (some .int) :: ((wsX7_loss_r1 ++ (wsX7_loss_r2 ++ (wsX7_loss_r3 ++ wsX7_loss_r4))) ++ wsX70 ++ wsX00 ++ wsX40)
def wsX7_best_r1 : List Cond := [Cond.fieldLink RX7 58 "BellTheCat" "search" "LBellTheCat$Search;", Cond.fieldLink RX7 19 "BellTheCat" "told" "LBellTheCat$House;", Cond.fieldLink RX7 29 "BellTheCat" "now" "LBellTheCat$Team;", Cond.fieldLink RX7 223 "BellTheCat$Team" "living" "I", Cond.fieldLink RX7 230 "BellTheCat$Search" "bestAbove" "J", Cond.fieldLink RX7 178 "BellTheCat$House" "stepCount" "I", Cond.methodLink RX7 201 yX7_isPart, Cond.static yX7_isPart, Cond.initialized RX7, Cond.code yX7_isPart cX7_isPart 1 (some .boolean), Cond.methodLink RX7 69 yX7_within, Cond.static yX7_within, Cond.code yX7_within cX7_within 2 (some .boolean), Cond.methodLink RX7 226 yX2_run, Cond.instanceMethod yX2_run, Cond.selects RX2 yX2_run yX2_run, Cond.initialized RX2, Cond.code yX2_run cX2_run 3 none, Cond.fieldLink RX2 15 "BellTheCat$Search" "bestRow" "[I", Cond.constantLong RX2 24 (-1), Cond.fieldLink RX2 26 "BellTheCat$Search" "bestAbove" "J", Cond.fieldLink RX2 30 "BellTheCat$House" "stepCount" "I", Cond.fieldLink RX2 42 "BellTheCat$Search" "mayRepeat" "Z", Cond.methodLink RX2 18 yJ7_fill_53178]
def wsX7_best_r2 : List Cond := [Cond.static yJ7_fill_53178, Cond.initialized RJ7, Cond.code yJ7_fill_53178 cJ7_fill_53178 4 none, Cond.methodLink RX2 36 yJ6_bitCount_0f7a4, Cond.static yJ6_bitCount_0f7a4, Cond.initialized RJ6, Cond.code yJ6_bitCount_0f7a4 cJ6_bitCount_0f7a4 1 (some .int), Cond.constant RJ6 265 (1431655765), Cond.constant RJ6 266 (858993459), Cond.constant RJ6 267 (252645135), Cond.methodLink RX2 46 yX2_tryFrom, Cond.static yX2_tryFrom, Cond.code yX2_tryFrom cX2_tryFrom 8 none, Cond.fieldLink RX2 62 "BellTheCat$House" "miceCount" "I", Cond.fieldLink RX2 9 "BellTheCat$Search" "row" "[I", Cond.methodLink RX2 50 yX0_hasStep, Cond.instanceMethod yX0_hasStep, Cond.selects RX0 yX0_hasStep yX0_hasStep, Cond.initialized RX0, Cond.code yX0_hasStep cX0_hasStep 2 (some .boolean), Cond.fieldLink RX0 43 "BellTheCat$House" "stepCount" "I", Cond.methodLink RX2 54 yX2_takeIfBetter, Cond.instanceMethod yX2_takeIfBetter, Cond.selects RX2 yX2_takeIfBetter yX2_takeIfBetter]
def wsX7_best_r3 : List Cond := [Cond.code yX2_takeIfBetter cX2_takeIfBetter 3 none, Cond.methodLink RX2 69 arraycopyName, Cond.native arraycopyName, Cond.static arraycopyName, Cond.initialized "java/lang/System", Cond.static yX7_tenTo, Cond.code yX7_tenTo cX7_tenTo 1 (some .long), Cond.methodLink RX7 281 yX7_power, Cond.static yX7_power, Cond.code yX7_power cX7_power 5 (some .long), Cond.methodLink RX2 65 yX0_dangerAt, Cond.instanceMethod yX0_dangerAt, Cond.selects RX0 yX0_dangerAt yX0_dangerAt, Cond.code yX0_dangerAt cX0_dangerAt 3 (some .int), Cond.fieldLink RX0 24 "BellTheCat$House" "noises" "[I", Cond.fieldLink RX0 9 "BellTheCat$House" "kinds" "[I", Cond.fieldLink RX0 15 "BellTheCat$House" "speeds" "[I", Cond.methodLink RX0 70 yX0_hasStep, Cond.methodLink RX0 64 yX0_hasMouse, Cond.instanceMethod yX0_hasMouse, Cond.selects RX0 yX0_hasMouse yX0_hasMouse, Cond.code yX0_hasMouse cX0_hasMouse 2 (some .boolean), Cond.fieldLink RX0 40 "BellTheCat$House" "miceCount" "I", Cond.static yX7_dangerOf]
def wsX7_best_r4 : List Cond := [Cond.code yX7_dangerOf cX7_dangerOf 4 (some .int), Cond.methodLink RX7 317 Lib.Math.max.name, Cond.static Lib.Math.max.name, Cond.initialized "java/lang/Math", Cond.code Lib.Math.max.name Lib.Math.max.code 2 (some .int), Cond.methodLink RX7 272 Lib.Math.min.name, Cond.static Lib.Math.min.name, Cond.code Lib.Math.min.name Lib.Math.min.code 2 (some .int), Cond.methodLink RX7 208 yX7_tenTo, Cond.methodLink RX7 211 yX7_partOf, Cond.static yX7_partOf, Cond.code yX7_partOf cX7_partOf 7 (some .long), Cond.methodLink RX7 322 yX7_commonDivisor, Cond.static yX7_commonDivisor, Cond.code yX7_commonDivisor cX7_commonDivisor 11 (some .long)]
def wsX7_best : List Cond := .code yX7_best cX7_best 2 (some .int) :: ((wsX7_best_r1 ++ (wsX7_best_r2 ++ (wsX7_best_r3 ++ wsX7_best_r4))) ++ wsX70 ++ wsX40 ++ wsX20 ++ wsX00)
def wsX7_bestOf_r1 : List Cond := [Cond.fieldLink RX7 19 "BellTheCat" "told" "LBellTheCat$House;", Cond.fieldLink RX7 58 "BellTheCat" "search" "LBellTheCat$Search;", Cond.fieldLink RX7 29 "BellTheCat" "now" "LBellTheCat$Team;", Cond.fieldLink RX7 223 "BellTheCat$Team" "living" "I", Cond.fieldLink RX7 234 "BellTheCat$Search" "bestRow" "[I", Cond.methodLink RX7 128 yX0_hasStep, Cond.instanceMethod yX0_hasStep, Cond.selects RX0 yX0_hasStep yX0_hasStep, Cond.initialized RX0, Cond.code yX0_hasStep cX0_hasStep 2 (some .boolean), Cond.fieldLink RX0 43 "BellTheCat$House" "stepCount" "I", Cond.methodLink RX7 226 yX2_run, Cond.instanceMethod yX2_run, Cond.selects RX2 yX2_run yX2_run, Cond.initialized RX2, Cond.code yX2_run cX2_run 3 none, Cond.fieldLink RX2 15 "BellTheCat$Search" "bestRow" "[I", Cond.constantLong RX2 24 (-1), Cond.fieldLink RX2 26 "BellTheCat$Search" "bestAbove" "J", Cond.fieldLink RX2 30 "BellTheCat$House" "stepCount" "I", Cond.fieldLink RX2 42 "BellTheCat$Search" "mayRepeat" "Z", Cond.methodLink RX2 18 yJ7_fill_53178, Cond.static yJ7_fill_53178, Cond.initialized RJ7]
def wsX7_bestOf_r2 : List Cond := [Cond.code yJ7_fill_53178 cJ7_fill_53178 4 none, Cond.methodLink RX2 36 yJ6_bitCount_0f7a4, Cond.static yJ6_bitCount_0f7a4, Cond.initialized RJ6, Cond.code yJ6_bitCount_0f7a4 cJ6_bitCount_0f7a4 1 (some .int), Cond.constant RJ6 265 (1431655765), Cond.constant RJ6 266 (858993459), Cond.constant RJ6 267 (252645135), Cond.methodLink RX2 46 yX2_tryFrom, Cond.static yX2_tryFrom, Cond.code yX2_tryFrom cX2_tryFrom 8 none, Cond.fieldLink RX2 62 "BellTheCat$House" "miceCount" "I", Cond.fieldLink RX2 9 "BellTheCat$Search" "row" "[I", Cond.methodLink RX2 50 yX0_hasStep, Cond.methodLink RX2 54 yX2_takeIfBetter, Cond.instanceMethod yX2_takeIfBetter, Cond.selects RX2 yX2_takeIfBetter yX2_takeIfBetter, Cond.code yX2_takeIfBetter cX2_takeIfBetter 3 none, Cond.methodLink RX2 69 arraycopyName, Cond.native arraycopyName, Cond.static arraycopyName, Cond.initialized "java/lang/System", Cond.static yX7_tenTo, Cond.initialized RX7]
def wsX7_bestOf_r3 : List Cond := [Cond.code yX7_tenTo cX7_tenTo 1 (some .long), Cond.methodLink RX7 281 yX7_power, Cond.static yX7_power, Cond.code yX7_power cX7_power 5 (some .long), Cond.methodLink RX2 65 yX0_dangerAt, Cond.instanceMethod yX0_dangerAt, Cond.selects RX0 yX0_dangerAt yX0_dangerAt, Cond.code yX0_dangerAt cX0_dangerAt 3 (some .int), Cond.fieldLink RX0 24 "BellTheCat$House" "noises" "[I", Cond.fieldLink RX0 9 "BellTheCat$House" "kinds" "[I", Cond.fieldLink RX0 15 "BellTheCat$House" "speeds" "[I", Cond.methodLink RX0 70 yX0_hasStep, Cond.methodLink RX0 64 yX0_hasMouse, Cond.instanceMethod yX0_hasMouse, Cond.selects RX0 yX0_hasMouse yX0_hasMouse, Cond.code yX0_hasMouse cX0_hasMouse 2 (some .boolean), Cond.fieldLink RX0 40 "BellTheCat$House" "miceCount" "I", Cond.static yX7_dangerOf, Cond.code yX7_dangerOf cX7_dangerOf 4 (some .int), Cond.methodLink RX7 317 Lib.Math.max.name, Cond.static Lib.Math.max.name, Cond.initialized "java/lang/Math", Cond.code Lib.Math.max.name Lib.Math.max.code 2 (some .int), Cond.methodLink RX7 272 Lib.Math.min.name]
def wsX7_bestOf_r4 : List Cond := [Cond.static Lib.Math.min.name, Cond.code Lib.Math.min.name Lib.Math.min.code 2 (some .int)]
def wsX7_bestOf : List Cond := .code yX7_bestOf cX7_bestOf 2 (some .int) :: ((wsX7_bestOf_r1 ++ (wsX7_bestOf_r2 ++ (wsX7_bestOf_r3 ++ wsX7_bestOf_r4))) ++ wsX70 ++ wsX40 ++ wsX20 ++ wsX00)
def wsX7_ticketsInLot : List Cond := .code yX7_ticketsInLot cX7_ticketsInLot 2 (some .int) :: ([.fieldLink RX7 19 "BellTheCat" "told" "LBellTheCat$House;", .fieldLink RX7 29 "BellTheCat" "now" "LBellTheCat$Team;", .fieldLink RX7 118 "BellTheCat$House" "tickets" "[I", .methodLink RX7 105 yX0_hasMouse, .instanceMethod yX0_hasMouse, .selects RX0 yX0_hasMouse yX0_hasMouse, .initialized RX0, .code yX0_hasMouse cX0_hasMouse 2 (some .boolean), .fieldLink RX0 40 "BellTheCat$House" "miceCount" "I", .methodLink RX7 121 yX4_lives, .instanceMethod yX4_lives, .selects RX4 yX4_lives yX4_lives, .initialized RX4, .code yX4_lives cX4_lives 2 (some .boolean), .fieldLink RX4 28 "BellTheCat$Team" "living" "I"] ++ wsX70 ++ wsX00 ++ wsX40)
def wsX7_drawn_r1 : List Cond := [Cond.fieldLink RX7 19 "BellTheCat" "told" "LBellTheCat$House;", Cond.fieldLink RX7 89 "BellTheCat$House" "miceCount" "I", Cond.methodLink RX7 105 yX0_hasMouse, Cond.instanceMethod yX0_hasMouse, Cond.selects RX0 yX0_hasMouse yX0_hasMouse, Cond.initialized RX0, Cond.code yX0_hasMouse cX0_hasMouse 2 (some .boolean), Cond.fieldLink RX0 40 "BellTheCat$House" "miceCount" "I", Cond.methodLink RX7 201 yX7_isPart, Cond.static yX7_isPart, Cond.initialized RX7, Cond.code yX7_isPart cX7_isPart 1 (some .boolean), Cond.methodLink RX7 69 yX7_within, Cond.static yX7_within, Cond.code yX7_within cX7_within 2 (some .boolean), Cond.methodLink RX7 237 yX7_ticketsInLot, Cond.instanceMethod yX7_ticketsInLot, Cond.selects RX7 yX7_ticketsInLot yX7_ticketsInLot, Cond.code yX7_ticketsInLot cX7_ticketsInLot 2 (some .int), Cond.fieldLink RX7 29 "BellTheCat" "now" "LBellTheCat$Team;", Cond.fieldLink RX7 118 "BellTheCat$House" "tickets" "[I", Cond.methodLink RX7 121 yX4_lives, Cond.instanceMethod yX4_lives, Cond.selects RX4 yX4_lives yX4_lives]
def wsX7_drawn_r2 : List Cond := [Cond.initialized RX4, Cond.code yX4_lives cX4_lives 2 (some .boolean), Cond.fieldLink RX4 28 "BellTheCat$Team" "living" "I", Cond.methodLink RX7 211 yX7_partOf, Cond.static yX7_partOf, Cond.code yX7_partOf cX7_partOf 7 (some .long), Cond.methodLink RX7 322 yX7_commonDivisor, Cond.static yX7_commonDivisor, Cond.code yX7_commonDivisor cX7_commonDivisor 11 (some .long)]
def wsX7_drawn : List Cond := .code yX7_drawn cX7_drawn 5 (some .int) :: ((wsX7_drawn_r1 ++ wsX7_drawn_r2) ++ wsX70 ++ wsX00 ++ wsX40)
def wsX7_alone_r1 : List Cond := [Cond.fieldLink RX7 19 "BellTheCat" "told" "LBellTheCat$House;", Cond.fieldLink RX7 178 "BellTheCat$House" "stepCount" "I", Cond.methodLink RX7 105 yX0_hasMouse, Cond.instanceMethod yX0_hasMouse, Cond.selects RX0 yX0_hasMouse yX0_hasMouse, Cond.initialized RX0, Cond.code yX0_hasMouse cX0_hasMouse 2 (some .boolean), Cond.fieldLink RX0 40 "BellTheCat$House" "miceCount" "I", Cond.methodLink RX7 201 yX7_isPart, Cond.static yX7_isPart, Cond.initialized RX7, Cond.code yX7_isPart cX7_isPart 1 (some .boolean), Cond.methodLink RX7 69 yX7_within, Cond.static yX7_within, Cond.code yX7_within cX7_within 2 (some .boolean), Cond.methodLink RX7 240 yX0_aloneAbove, Cond.instanceMethod yX0_aloneAbove, Cond.selects RX0 yX0_aloneAbove yX0_aloneAbove, Cond.code yX0_aloneAbove cX0_aloneAbove 7 (some .long), Cond.fieldLink RX0 43 "BellTheCat$House" "stepCount" "I", Cond.constantLong RX0 77 (10), Cond.methodLink RX0 79 yX0_dangerAt, Cond.instanceMethod yX0_dangerAt, Cond.selects RX0 yX0_dangerAt yX0_dangerAt]
def wsX7_alone_r2 : List Cond := [Cond.code yX0_dangerAt cX0_dangerAt 3 (some .int), Cond.fieldLink RX0 24 "BellTheCat$House" "noises" "[I", Cond.fieldLink RX0 9 "BellTheCat$House" "kinds" "[I", Cond.fieldLink RX0 15 "BellTheCat$House" "speeds" "[I", Cond.methodLink RX0 70 yX0_hasStep, Cond.instanceMethod yX0_hasStep, Cond.selects RX0 yX0_hasStep yX0_hasStep, Cond.code yX0_hasStep cX0_hasStep 2 (some .boolean), Cond.methodLink RX0 64 yX0_hasMouse, Cond.static yX7_dangerOf, Cond.code yX7_dangerOf cX7_dangerOf 4 (some .int), Cond.methodLink RX7 317 Lib.Math.max.name, Cond.static Lib.Math.max.name, Cond.initialized "java/lang/Math", Cond.code Lib.Math.max.name Lib.Math.max.code 2 (some .int), Cond.methodLink RX7 272 Lib.Math.min.name, Cond.static Lib.Math.min.name, Cond.code Lib.Math.min.name Lib.Math.min.code 2 (some .int), Cond.methodLink RX7 208 yX7_tenTo, Cond.static yX7_tenTo, Cond.code yX7_tenTo cX7_tenTo 1 (some .long), Cond.methodLink RX7 281 yX7_power, Cond.static yX7_power, Cond.code yX7_power cX7_power 5 (some .long)]
def wsX7_alone_r3 : List Cond := [Cond.methodLink RX7 211 yX7_partOf, Cond.static yX7_partOf, Cond.code yX7_partOf cX7_partOf 7 (some .long), Cond.methodLink RX7 322 yX7_commonDivisor, Cond.static yX7_commonDivisor, Cond.code yX7_commonDivisor cX7_commonDivisor 11 (some .long)]
def wsX7_alone : List Cond := .code yX7_alone cX7_alone 3 (some .int) :: ((wsX7_alone_r1 ++ (wsX7_alone_r2 ++ wsX7_alone_r3)) ++ wsX70 ++ wsX00)
def wsX7_dread_r1 : List Cond := [Cond.fieldLink RX7 19 "BellTheCat" "told" "LBellTheCat$House;", Cond.fieldLink RX7 178 "BellTheCat$House" "stepCount" "I", Cond.methodLink RX7 105 yX0_hasMouse, Cond.instanceMethod yX0_hasMouse, Cond.selects RX0 yX0_hasMouse yX0_hasMouse, Cond.initialized RX0, Cond.code yX0_hasMouse cX0_hasMouse 2 (some .boolean), Cond.fieldLink RX0 40 "BellTheCat$House" "miceCount" "I", Cond.methodLink RX7 201 yX7_isPart, Cond.static yX7_isPart, Cond.initialized RX7, Cond.code yX7_isPart cX7_isPart 1 (some .boolean), Cond.methodLink RX7 69 yX7_within, Cond.static yX7_within, Cond.code yX7_within cX7_within 2 (some .boolean), Cond.methodLink RX7 243 yX0_dreadAbove, Cond.instanceMethod yX0_dreadAbove, Cond.selects RX0 yX0_dreadAbove yX0_dreadAbove, Cond.code yX0_dreadAbove cX0_dreadAbove 2 (some .long), Cond.methodLink RX0 83 yX0_fearOf, Cond.instanceMethod yX0_fearOf, Cond.selects RX0 yX0_fearOf yX0_fearOf, Cond.code yX0_fearOf cX0_fearOf 2 (some .int), Cond.fieldLink RX0 18 "BellTheCat$House" "fears" "[I"]
def wsX7_dread_r2 : List Cond := [Cond.methodLink RX0 64 yX0_hasMouse, Cond.methodLink RX0 87 yX0_aloneAbove, Cond.instanceMethod yX0_aloneAbove, Cond.selects RX0 yX0_aloneAbove yX0_aloneAbove, Cond.code yX0_aloneAbove cX0_aloneAbove 7 (some .long), Cond.fieldLink RX0 43 "BellTheCat$House" "stepCount" "I", Cond.constantLong RX0 77 (10), Cond.methodLink RX0 79 yX0_dangerAt, Cond.instanceMethod yX0_dangerAt, Cond.selects RX0 yX0_dangerAt yX0_dangerAt, Cond.code yX0_dangerAt cX0_dangerAt 3 (some .int), Cond.fieldLink RX0 24 "BellTheCat$House" "noises" "[I", Cond.fieldLink RX0 9 "BellTheCat$House" "kinds" "[I", Cond.fieldLink RX0 15 "BellTheCat$House" "speeds" "[I", Cond.methodLink RX0 70 yX0_hasStep, Cond.instanceMethod yX0_hasStep, Cond.selects RX0 yX0_hasStep yX0_hasStep, Cond.code yX0_hasStep cX0_hasStep 2 (some .boolean), Cond.static yX7_dangerOf, Cond.code yX7_dangerOf cX7_dangerOf 4 (some .int), Cond.methodLink RX7 317 Lib.Math.max.name, Cond.static Lib.Math.max.name, Cond.initialized "java/lang/Math", Cond.code Lib.Math.max.name Lib.Math.max.code 2 (some .int)]
def wsX7_dread_r3 : List Cond := [Cond.methodLink RX7 272 Lib.Math.min.name, Cond.static Lib.Math.min.name, Cond.code Lib.Math.min.name Lib.Math.min.code 2 (some .int), Cond.methodLink RX7 208 yX7_tenTo, Cond.static yX7_tenTo, Cond.code yX7_tenTo cX7_tenTo 1 (some .long), Cond.methodLink RX7 281 yX7_power, Cond.static yX7_power, Cond.code yX7_power cX7_power 5 (some .long), Cond.methodLink RX7 211 yX7_partOf, Cond.static yX7_partOf, Cond.code yX7_partOf cX7_partOf 7 (some .long), Cond.methodLink RX7 322 yX7_commonDivisor, Cond.static yX7_commonDivisor, Cond.code yX7_commonDivisor cX7_commonDivisor 11 (some .long)]
def wsX7_dread : List Cond := .code yX7_dread cX7_dread 3 (some .int) :: ((wsX7_dread_r1 ++ (wsX7_dread_r2 ++ wsX7_dread_r3)) ++ wsX70 ++ wsX00)
def wsX7_leastAfraid_r1 : List Cond := [Cond.fieldLink RX7 19 "BellTheCat" "told" "LBellTheCat$House;", Cond.fieldLink RX7 89 "BellTheCat$House" "miceCount" "I", Cond.fieldLink RX7 29 "BellTheCat" "now" "LBellTheCat$Team;", Cond.methodLink RX7 121 yX4_lives, Cond.instanceMethod yX4_lives, Cond.selects RX4 yX4_lives yX4_lives, Cond.initialized RX4, Cond.code yX4_lives cX4_lives 2 (some .boolean), Cond.fieldLink RX4 28 "BellTheCat$Team" "living" "I", Cond.methodLink RX7 243 yX0_dreadAbove, Cond.instanceMethod yX0_dreadAbove, Cond.selects RX0 yX0_dreadAbove yX0_dreadAbove, Cond.initialized RX0, Cond.code yX0_dreadAbove cX0_dreadAbove 2 (some .long), Cond.methodLink RX0 83 yX0_fearOf, Cond.instanceMethod yX0_fearOf, Cond.selects RX0 yX0_fearOf yX0_fearOf, Cond.code yX0_fearOf cX0_fearOf 2 (some .int), Cond.fieldLink RX0 18 "BellTheCat$House" "fears" "[I", Cond.methodLink RX0 64 yX0_hasMouse, Cond.instanceMethod yX0_hasMouse, Cond.selects RX0 yX0_hasMouse yX0_hasMouse, Cond.code yX0_hasMouse cX0_hasMouse 2 (some .boolean), Cond.fieldLink RX0 40 "BellTheCat$House" "miceCount" "I"]
def wsX7_leastAfraid_r2 : List Cond := [Cond.methodLink RX0 87 yX0_aloneAbove, Cond.instanceMethod yX0_aloneAbove, Cond.selects RX0 yX0_aloneAbove yX0_aloneAbove, Cond.code yX0_aloneAbove cX0_aloneAbove 7 (some .long), Cond.fieldLink RX0 43 "BellTheCat$House" "stepCount" "I", Cond.constantLong RX0 77 (10), Cond.methodLink RX0 79 yX0_dangerAt, Cond.instanceMethod yX0_dangerAt, Cond.selects RX0 yX0_dangerAt yX0_dangerAt, Cond.code yX0_dangerAt cX0_dangerAt 3 (some .int), Cond.fieldLink RX0 24 "BellTheCat$House" "noises" "[I", Cond.fieldLink RX0 9 "BellTheCat$House" "kinds" "[I", Cond.fieldLink RX0 15 "BellTheCat$House" "speeds" "[I", Cond.methodLink RX0 70 yX0_hasStep, Cond.instanceMethod yX0_hasStep, Cond.selects RX0 yX0_hasStep yX0_hasStep, Cond.code yX0_hasStep cX0_hasStep 2 (some .boolean), Cond.static yX7_dangerOf, Cond.initialized RX7, Cond.code yX7_dangerOf cX7_dangerOf 4 (some .int), Cond.methodLink RX7 317 Lib.Math.max.name, Cond.static Lib.Math.max.name, Cond.initialized "java/lang/Math", Cond.code Lib.Math.max.name Lib.Math.max.code 2 (some .int)]
def wsX7_leastAfraid_r3 : List Cond := [Cond.methodLink RX7 272 Lib.Math.min.name, Cond.static Lib.Math.min.name, Cond.code Lib.Math.min.name Lib.Math.min.code 2 (some .int)]
def wsX7_leastAfraid : List Cond := .code yX7_leastAfraid cX7_leastAfraid 3 (some .int) :: ((wsX7_leastAfraid_r1 ++ (wsX7_leastAfraid_r2 ++ wsX7_leastAfraid_r3)) ++ wsX70 ++ wsX00 ++ wsX40)
def wsX7_hires_r1 : List Cond := [Cond.fieldLink RX7 19 "BellTheCat" "told" "LBellTheCat$House;", Cond.fieldLink RX7 29 "BellTheCat" "now" "LBellTheCat$Team;", Cond.methodLink RX7 105 yX0_hasMouse, Cond.instanceMethod yX0_hasMouse, Cond.selects RX0 yX0_hasMouse yX0_hasMouse, Cond.initialized RX0, Cond.code yX0_hasMouse cX0_hasMouse 2 (some .boolean), Cond.fieldLink RX0 40 "BellTheCat$House" "miceCount" "I", Cond.methodLink RX7 121 yX4_lives, Cond.instanceMethod yX4_lives, Cond.selects RX4 yX4_lives yX4_lives, Cond.initialized RX4, Cond.code yX4_lives cX4_lives 2 (some .boolean), Cond.fieldLink RX4 28 "BellTheCat$Team" "living" "I", Cond.methodLink RX7 246 yX7_leastAfraid, Cond.instanceMethod yX7_leastAfraid, Cond.selects RX7 yX7_leastAfraid yX7_leastAfraid, Cond.initialized RX7, Cond.code yX7_leastAfraid cX7_leastAfraid 3 (some .int), Cond.fieldLink RX7 89 "BellTheCat$House" "miceCount" "I", Cond.methodLink RX7 243 yX0_dreadAbove, Cond.instanceMethod yX0_dreadAbove, Cond.selects RX0 yX0_dreadAbove yX0_dreadAbove, Cond.code yX0_dreadAbove cX0_dreadAbove 2 (some .long)]
def wsX7_hires_r2 : List Cond := [Cond.methodLink RX0 83 yX0_fearOf, Cond.instanceMethod yX0_fearOf, Cond.selects RX0 yX0_fearOf yX0_fearOf, Cond.code yX0_fearOf cX0_fearOf 2 (some .int), Cond.fieldLink RX0 18 "BellTheCat$House" "fears" "[I", Cond.methodLink RX0 64 yX0_hasMouse, Cond.methodLink RX0 87 yX0_aloneAbove, Cond.instanceMethod yX0_aloneAbove, Cond.selects RX0 yX0_aloneAbove yX0_aloneAbove, Cond.code yX0_aloneAbove cX0_aloneAbove 7 (some .long), Cond.fieldLink RX0 43 "BellTheCat$House" "stepCount" "I", Cond.constantLong RX0 77 (10), Cond.methodLink RX0 79 yX0_dangerAt, Cond.instanceMethod yX0_dangerAt, Cond.selects RX0 yX0_dangerAt yX0_dangerAt, Cond.code yX0_dangerAt cX0_dangerAt 3 (some .int), Cond.fieldLink RX0 24 "BellTheCat$House" "noises" "[I", Cond.fieldLink RX0 9 "BellTheCat$House" "kinds" "[I", Cond.fieldLink RX0 15 "BellTheCat$House" "speeds" "[I", Cond.methodLink RX0 70 yX0_hasStep, Cond.instanceMethod yX0_hasStep, Cond.selects RX0 yX0_hasStep yX0_hasStep, Cond.code yX0_hasStep cX0_hasStep 2 (some .boolean), Cond.static yX7_dangerOf]
def wsX7_hires_r3 : List Cond := [Cond.code yX7_dangerOf cX7_dangerOf 4 (some .int), Cond.methodLink RX7 317 Lib.Math.max.name, Cond.static Lib.Math.max.name, Cond.initialized "java/lang/Math", Cond.code Lib.Math.max.name Lib.Math.max.code 2 (some .int), Cond.methodLink RX7 272 Lib.Math.min.name, Cond.static Lib.Math.min.name, Cond.code Lib.Math.min.name Lib.Math.min.code 2 (some .int)]
def wsX7_hires : List Cond := .code yX7_hires cX7_hires 3 (some .int) :: ((wsX7_hires_r1 ++ (wsX7_hires_r2 ++ wsX7_hires_r3)) ++ wsX70 ++ wsX00 ++ wsX40)
def wsX7_rests_r1 : List Cond := [Cond.fieldLink RX7 65 "BellTheCat" "offers" "LBellTheCat$Offers;", Cond.fieldLink RX7 19 "BellTheCat" "told" "LBellTheCat$House;", Cond.fieldLink RX7 29 "BellTheCat" "now" "LBellTheCat$Team;", Cond.fieldLink RX7 223 "BellTheCat$Team" "living" "I", Cond.methodLink RX7 69 yX7_within, Cond.static yX7_within, Cond.initialized RX7, Cond.code yX7_within cX7_within 2 (some .boolean), Cond.methodLink RX7 249 yX1_weigh, Cond.instanceMethod yX1_weigh, Cond.selects RX1 yX1_weigh yX1_weigh, Cond.initialized RX1, Cond.code yX1_weigh cX1_weigh 13 none, Cond.fieldLink RX1 9 "BellTheCat$Offers" "living" "I", Cond.fieldLink RX1 15 "BellTheCat$Offers" "glad" "I", Cond.fieldLink RX1 18 "BellTheCat$Offers" "loath" "I", Cond.fieldLink RX1 21 "BellTheCat$Offers" "gladAlone" "I", Cond.fieldLink RX1 24 "BellTheCat$Offers" "tempted" "I", Cond.fieldLink RX1 27 "BellTheCat$House" "stepCount" "I", Cond.fieldLink RX1 36 "BellTheCat$House" "gain" "I", Cond.fieldLink RX1 39 "BellTheCat$House" "miceCount" "I", Cond.static yX7_tenTo, Cond.code yX7_tenTo cX7_tenTo 1 (some .long), Cond.methodLink RX7 281 yX7_power]
def wsX7_rests_r2 : List Cond := [Cond.static yX7_power, Cond.code yX7_power cX7_power 5 (some .long), Cond.methodLink RX1 42 yX0_dreadAbove, Cond.instanceMethod yX0_dreadAbove, Cond.selects RX0 yX0_dreadAbove yX0_dreadAbove, Cond.initialized RX0, Cond.code yX0_dreadAbove cX0_dreadAbove 2 (some .long), Cond.methodLink RX0 83 yX0_fearOf, Cond.instanceMethod yX0_fearOf, Cond.selects RX0 yX0_fearOf yX0_fearOf, Cond.code yX0_fearOf cX0_fearOf 2 (some .int), Cond.fieldLink RX0 18 "BellTheCat$House" "fears" "[I", Cond.methodLink RX0 64 yX0_hasMouse, Cond.instanceMethod yX0_hasMouse, Cond.selects RX0 yX0_hasMouse yX0_hasMouse, Cond.code yX0_hasMouse cX0_hasMouse 2 (some .boolean), Cond.fieldLink RX0 40 "BellTheCat$House" "miceCount" "I", Cond.methodLink RX0 87 yX0_aloneAbove, Cond.instanceMethod yX0_aloneAbove, Cond.selects RX0 yX0_aloneAbove yX0_aloneAbove, Cond.code yX0_aloneAbove cX0_aloneAbove 7 (some .long), Cond.fieldLink RX0 43 "BellTheCat$House" "stepCount" "I", Cond.constantLong RX0 77 (10), Cond.methodLink RX0 79 yX0_dangerAt]
def wsX7_rests_r3 : List Cond := [Cond.instanceMethod yX0_dangerAt, Cond.selects RX0 yX0_dangerAt yX0_dangerAt, Cond.code yX0_dangerAt cX0_dangerAt 3 (some .int), Cond.fieldLink RX0 24 "BellTheCat$House" "noises" "[I", Cond.fieldLink RX0 9 "BellTheCat$House" "kinds" "[I", Cond.fieldLink RX0 15 "BellTheCat$House" "speeds" "[I", Cond.methodLink RX0 70 yX0_hasStep, Cond.instanceMethod yX0_hasStep, Cond.selects RX0 yX0_hasStep yX0_hasStep, Cond.code yX0_hasStep cX0_hasStep 2 (some .boolean), Cond.static yX7_dangerOf, Cond.code yX7_dangerOf cX7_dangerOf 4 (some .int), Cond.methodLink RX7 317 Lib.Math.max.name, Cond.static Lib.Math.max.name, Cond.initialized "java/lang/Math", Cond.code Lib.Math.max.name Lib.Math.max.code 2 (some .int), Cond.methodLink RX7 272 Lib.Math.min.name, Cond.static Lib.Math.min.name, Cond.code Lib.Math.min.name Lib.Math.min.code 2 (some .int), Cond.methodLink RX7 253 yX1_howManyRest, Cond.instanceMethod yX1_howManyRest, Cond.selects RX1 yX1_howManyRest yX1_howManyRest, Cond.code yX1_howManyRest cX1_howManyRest 3 (some .int), Cond.methodLink RX1 51 yX1_isAtRest]
def wsX7_rests_r4 : List Cond := [Cond.instanceMethod yX1_isAtRest, Cond.selects RX1 yX1_isAtRest yX1_isAtRest, Cond.code yX1_isAtRest cX1_isAtRest 4 (some .boolean), Cond.methodLink RX1 45 yJ6_bitCount_0f7a4, Cond.static yJ6_bitCount_0f7a4, Cond.initialized RJ6, Cond.code yJ6_bitCount_0f7a4 cJ6_bitCount_0f7a4 1 (some .int), Cond.constant RJ6 265 (1431655765), Cond.constant RJ6 266 (858993459), Cond.constant RJ6 267 (252645135), Cond.methodLink RX7 256 yX1_leastAtRest, Cond.instanceMethod yX1_leastAtRest, Cond.selects RX1 yX1_leastAtRest yX1_leastAtRest, Cond.code yX1_leastAtRest cX1_leastAtRest 2 (some .int)]
def wsX7_rests : List Cond := .code yX7_rests cX7_rests 3 (some .int) :: ((wsX7_rests_r1 ++ (wsX7_rests_r2 ++ (wsX7_rests_r3 ++ wsX7_rests_r4))) ++ wsX70 ++ wsX40 ++ wsX10 ++ wsX00)
def wsX7_fund_r1 : List Cond := [Cond.fieldLink RX7 19 "BellTheCat" "told" "LBellTheCat$House;", Cond.fieldLink RX7 178 "BellTheCat$House" "stepCount" "I", Cond.fieldLink RX7 259 "BellTheCat$House" "gain" "I", Cond.methodLink RX7 246 yX7_leastAfraid, Cond.instanceMethod yX7_leastAfraid, Cond.selects RX7 yX7_leastAfraid yX7_leastAfraid, Cond.initialized RX7, Cond.code yX7_leastAfraid cX7_leastAfraid 3 (some .int), Cond.fieldLink RX7 89 "BellTheCat$House" "miceCount" "I", Cond.fieldLink RX7 29 "BellTheCat" "now" "LBellTheCat$Team;", Cond.methodLink RX7 121 yX4_lives, Cond.instanceMethod yX4_lives, Cond.selects RX4 yX4_lives yX4_lives, Cond.initialized RX4, Cond.code yX4_lives cX4_lives 2 (some .boolean), Cond.fieldLink RX4 28 "BellTheCat$Team" "living" "I", Cond.methodLink RX7 243 yX0_dreadAbove, Cond.instanceMethod yX0_dreadAbove, Cond.selects RX0 yX0_dreadAbove yX0_dreadAbove, Cond.initialized RX0, Cond.code yX0_dreadAbove cX0_dreadAbove 2 (some .long), Cond.methodLink RX0 83 yX0_fearOf, Cond.instanceMethod yX0_fearOf, Cond.selects RX0 yX0_fearOf yX0_fearOf]
def wsX7_fund_r2 : List Cond := [Cond.code yX0_fearOf cX0_fearOf 2 (some .int), Cond.fieldLink RX0 18 "BellTheCat$House" "fears" "[I", Cond.methodLink RX0 64 yX0_hasMouse, Cond.instanceMethod yX0_hasMouse, Cond.selects RX0 yX0_hasMouse yX0_hasMouse, Cond.code yX0_hasMouse cX0_hasMouse 2 (some .boolean), Cond.fieldLink RX0 40 "BellTheCat$House" "miceCount" "I", Cond.methodLink RX0 87 yX0_aloneAbove, Cond.instanceMethod yX0_aloneAbove, Cond.selects RX0 yX0_aloneAbove yX0_aloneAbove, Cond.code yX0_aloneAbove cX0_aloneAbove 7 (some .long), Cond.fieldLink RX0 43 "BellTheCat$House" "stepCount" "I", Cond.constantLong RX0 77 (10), Cond.methodLink RX0 79 yX0_dangerAt, Cond.instanceMethod yX0_dangerAt, Cond.selects RX0 yX0_dangerAt yX0_dangerAt, Cond.code yX0_dangerAt cX0_dangerAt 3 (some .int), Cond.fieldLink RX0 24 "BellTheCat$House" "noises" "[I", Cond.fieldLink RX0 9 "BellTheCat$House" "kinds" "[I", Cond.fieldLink RX0 15 "BellTheCat$House" "speeds" "[I", Cond.methodLink RX0 70 yX0_hasStep, Cond.instanceMethod yX0_hasStep, Cond.selects RX0 yX0_hasStep yX0_hasStep, Cond.code yX0_hasStep cX0_hasStep 2 (some .boolean)]
def wsX7_fund_r3 : List Cond := [Cond.static yX7_dangerOf, Cond.code yX7_dangerOf cX7_dangerOf 4 (some .int), Cond.methodLink RX7 317 Lib.Math.max.name, Cond.static Lib.Math.max.name, Cond.initialized "java/lang/Math", Cond.code Lib.Math.max.name Lib.Math.max.code 2 (some .int), Cond.methodLink RX7 272 Lib.Math.min.name, Cond.static Lib.Math.min.name, Cond.code Lib.Math.min.name Lib.Math.min.code 2 (some .int), Cond.methodLink RX7 208 yX7_tenTo, Cond.static yX7_tenTo, Cond.code yX7_tenTo cX7_tenTo 1 (some .long), Cond.methodLink RX7 281 yX7_power, Cond.static yX7_power, Cond.code yX7_power cX7_power 5 (some .long)]
def wsX7_fund : List Cond := .code yX7_fund cX7_fund 5 (some .int) :: ((wsX7_fund_r1 ++ (wsX7_fund_r2 ++ wsX7_fund_r3)) ++ wsX70 ++ wsX00 ++ wsX40)
def wsX7_rats : List Cond := .code yX7_rats cX7_rats 5 (some .int) :: ([.fieldLink RX7 19 "BellTheCat" "told" "LBellTheCat$House;", .fieldLink RX7 262 "BellTheCat$House" "ratCount" "I", .methodLink RX7 69 yX7_within, .static yX7_within, .initialized RX7, .code yX7_within cX7_within 2 (some .boolean), .methodLink RX7 265 yX0_worthOf, .instanceMethod yX0_worthOf, .selects RX0 yX0_worthOf yX0_worthOf, .initialized RX0, .code yX0_worthOf cX0_worthOf 2 (some .int), .fieldLink RX0 36 "BellTheCat$House" "gain" "I", .fieldLink RX0 30 "BellTheCat$House" "skills" "[I", .fieldLink RX0 33 "BellTheCat$House" "words" "[I", .fieldLink RX0 27 "BellTheCat$House" "prices" "[I", .methodLink RX0 67 yX0_hasRat, .instanceMethod yX0_hasRat, .selects RX0 yX0_hasRat yX0_hasRat, .code yX0_hasRat cX0_hasRat 2 (some .boolean), .fieldLink RX0 46 "BellTheCat$House" "ratCount" "I"] ++ wsX70 ++ wsX00)
def wsX7_waysToChoose : List Cond := .code yX7_waysToChoose cX7_waysToChoose 5 (some .long) :: ([])
def wsX7_shoe_r1 : List Cond := [Cond.fieldLink RX7 19 "BellTheCat" "told" "LBellTheCat$House;", Cond.constantLong RX7 268 (-2), Cond.constantLong RX7 270 (-3), Cond.fieldLink RX7 112 "BellTheCat$House" "speeds" "[I", Cond.methodLink RX7 272 Lib.Math.min.name, Cond.static Lib.Math.min.name, Cond.initialized "java/lang/Math", Cond.code Lib.Math.min.name Lib.Math.min.code 2 (some .int), Cond.fieldLink RX7 131 "BellTheCat$House" "noises" "[I", Cond.fieldLink RX7 108 "BellTheCat$House" "kinds" "[I", Cond.methodLink RX7 105 yX0_hasMouse, Cond.instanceMethod yX0_hasMouse, Cond.selects RX0 yX0_hasMouse yX0_hasMouse, Cond.initialized RX0, Cond.code yX0_hasMouse cX0_hasMouse 2 (some .boolean), Cond.fieldLink RX0 40 "BellTheCat$House" "miceCount" "I", Cond.methodLink RX7 128 yX0_hasStep, Cond.instanceMethod yX0_hasStep, Cond.selects RX0 yX0_hasStep yX0_hasStep, Cond.code yX0_hasStep cX0_hasStep 2 (some .boolean), Cond.fieldLink RX0 43 "BellTheCat$House" "stepCount" "I", Cond.methodLink RX7 69 yX7_within, Cond.static yX7_within, Cond.initialized RX7]
def wsX7_shoe_r2 : List Cond := [Cond.code yX7_within cX7_within 2 (some .boolean), Cond.methodLink RX7 201 yX7_isPart, Cond.static yX7_isPart, Cond.code yX7_isPart cX7_isPart 1 (some .boolean), Cond.methodLink RX7 152 yX7_dangerOf, Cond.static yX7_dangerOf, Cond.code yX7_dangerOf cX7_dangerOf 4 (some .int), Cond.methodLink RX7 317 Lib.Math.max.name, Cond.static Lib.Math.max.name, Cond.code Lib.Math.max.name Lib.Math.max.code 2 (some .int), Cond.methodLink RX7 277 yX7_waysToChoose, Cond.static yX7_waysToChoose, Cond.code yX7_waysToChoose cX7_waysToChoose 5 (some .long), Cond.methodLink RX7 281 yX7_power, Cond.static yX7_power, Cond.code yX7_power cX7_power 5 (some .long), Cond.methodLink RX7 208 yX7_tenTo, Cond.static yX7_tenTo, Cond.code yX7_tenTo cX7_tenTo 1 (some .long), Cond.methodLink RX7 211 yX7_partOf, Cond.static yX7_partOf, Cond.code yX7_partOf cX7_partOf 7 (some .long), Cond.methodLink RX7 322 yX7_commonDivisor, Cond.static yX7_commonDivisor]
def wsX7_shoe_r3 : List Cond := [Cond.code yX7_commonDivisor cX7_commonDivisor 11 (some .long)]
def wsX7_shoe : List Cond := .code yX7_shoe cX7_shoe 10 (some .long) :: ((wsX7_shoe_r1 ++ (wsX7_shoe_r2 ++ wsX7_shoe_r3)) ++ wsX70 ++ wsX00)
def wsX7_callOff : List Cond := .code yX7_callOff cX7_callOff 11 (some .long) :: ([.constantLong RX7 270 (-3), .methodLink RX7 284 Lib.MathLoose.max_long.x, .static Lib.MathLoose.max_long.x, .initialized "java/lang/Math", .code Lib.MathLoose.max_long.x Lib.MathLoose.max_long.code 4 (some .long), .constantLong RX7 218 (10), .methodLink RX7 69 yX7_within, .static yX7_within, .initialized RX7, .code yX7_within cX7_within 2 (some .boolean), .methodLink RX7 201 yX7_isPart, .static yX7_isPart, .code yX7_isPart cX7_isPart 1 (some .boolean), .methodLink RX7 211 yX7_partOf, .static yX7_partOf, .code yX7_partOf cX7_partOf 7 (some .long), .methodLink RX7 322 yX7_commonDivisor, .static yX7_commonDivisor, .code yX7_commonDivisor cX7_commonDivisor 11 (some .long)])
def wsX7_seen : List Cond := .code yX7_seen cX7_seen 3 (some .int) :: ([.fieldLink RX7 19 "BellTheCat" "told" "LBellTheCat$House;", .fieldLink RX7 51 "BellTheCat" "sightings" "LBellTheCat$Sightings;", .fieldLink RX7 99 "BellTheCat$Sightings" "size" "I", .methodLink RX7 128 yX0_hasStep, .instanceMethod yX0_hasStep, .selects RX0 yX0_hasStep yX0_hasStep, .initialized RX0, .code yX0_hasStep cX0_hasStep 2 (some .boolean), .fieldLink RX0 43 "BellTheCat$House" "stepCount" "I", .methodLink RX7 105 yX0_hasMouse, .instanceMethod yX0_hasMouse, .selects RX0 yX0_hasMouse yX0_hasMouse, .code yX0_hasMouse cX0_hasMouse 2 (some .boolean), .fieldLink RX0 40 "BellTheCat$House" "miceCount" "I", .methodLink RX7 288 yX3_add, .instanceMethod yX3_add, .selects RX3 yX3_add yX3_add, .initialized RX3, .code yX3_add cX3_add 3 (some .boolean), .fieldLink RX3 18 "BellTheCat$Sightings" "size" "I", .fieldLink RX3 9 "BellTheCat$Sightings" "places" "[I", .fieldLink RX3 15 "BellTheCat$Sightings" "victims" "[I"] ++ wsX70 ++ wsX30 ++ wsX00)
def wsX7_forget : List Cond := .code yX7_forget cX7_forget 2 (some .int) :: ([.fieldLink RX7 51 "BellTheCat" "sightings" "LBellTheCat$Sightings;", .fieldLink RX7 99 "BellTheCat$Sightings" "size" "I"] ++ wsX70 ++ wsX30)
def wsX7_teams_r1 : List Cond := [Cond.fieldLink RX7 51 "BellTheCat" "sightings" "LBellTheCat$Sightings;", Cond.fieldLink RX7 19 "BellTheCat" "told" "LBellTheCat$House;", Cond.methodLink RX7 69 yX7_within, Cond.static yX7_within, Cond.initialized RX7, Cond.code yX7_within cX7_within 2 (some .boolean), Cond.methodLink RX7 291 yX3_rowCount, Cond.instanceMethod yX3_rowCount, Cond.selects RX3 yX3_rowCount yX3_rowCount, Cond.initialized RX3, Cond.code yX3_rowCount cX3_rowCount 4 (some .int), Cond.fieldLink RX3 35 "BellTheCat$House" "stepCount" "I", Cond.methodLink RX3 38 yX3_possibleAt, Cond.instanceMethod yX3_possibleAt, Cond.selects RX3 yX3_possibleAt yX3_possibleAt, Cond.code yX3_possibleAt cX3_possibleAt 5 (some .int), Cond.fieldLink RX3 22 "BellTheCat$House" "miceCount" "I", Cond.methodLink RX3 27 yX0_dangerAt, Cond.instanceMethod yX0_dangerAt, Cond.selects RX0 yX0_dangerAt yX0_dangerAt, Cond.initialized RX0, Cond.code yX0_dangerAt cX0_dangerAt 3 (some .int), Cond.fieldLink RX0 24 "BellTheCat$House" "noises" "[I", Cond.fieldLink RX0 9 "BellTheCat$House" "kinds" "[I"]
def wsX7_teams_r2 : List Cond := [Cond.fieldLink RX0 15 "BellTheCat$House" "speeds" "[I", Cond.methodLink RX0 70 yX0_hasStep, Cond.instanceMethod yX0_hasStep, Cond.selects RX0 yX0_hasStep yX0_hasStep, Cond.code yX0_hasStep cX0_hasStep 2 (some .boolean), Cond.fieldLink RX0 43 "BellTheCat$House" "stepCount" "I", Cond.methodLink RX0 64 yX0_hasMouse, Cond.instanceMethod yX0_hasMouse, Cond.selects RX0 yX0_hasMouse yX0_hasMouse, Cond.code yX0_hasMouse cX0_hasMouse 2 (some .boolean), Cond.fieldLink RX0 40 "BellTheCat$House" "miceCount" "I", Cond.static yX7_dangerOf, Cond.code yX7_dangerOf cX7_dangerOf 4 (some .int), Cond.methodLink RX7 317 Lib.Math.max.name, Cond.static Lib.Math.max.name, Cond.initialized "java/lang/Math", Cond.code Lib.Math.max.name Lib.Math.max.code 2 (some .int), Cond.methodLink RX7 272 Lib.Math.min.name, Cond.static Lib.Math.min.name, Cond.code Lib.Math.min.name Lib.Math.min.code 2 (some .int), Cond.methodLink RX3 31 yX3_isPossible, Cond.instanceMethod yX3_isPossible, Cond.selects RX3 yX3_isPossible yX3_isPossible, Cond.code yX3_isPossible cX3_isPossible 5 (some .boolean)]
def wsX7_teams_r3 : List Cond := [Cond.fieldLink RX3 18 "BellTheCat$Sightings" "size" "I", Cond.fieldLink RX3 9 "BellTheCat$Sightings" "places" "[I", Cond.fieldLink RX3 15 "BellTheCat$Sightings" "victims" "[I", Cond.methodLink RX3 42 yJ6_bitCount_0f7a4, Cond.static yJ6_bitCount_0f7a4, Cond.initialized RJ6, Cond.code yJ6_bitCount_0f7a4 cJ6_bitCount_0f7a4 1 (some .int), Cond.constant RJ6 265 (1431655765), Cond.constant RJ6 266 (858993459), Cond.constant RJ6 267 (252645135), Cond.methodLink RX7 295 yX3_inAllRows, Cond.instanceMethod yX3_inAllRows, Cond.selects RX3 yX3_inAllRows yX3_inAllRows, Cond.code yX3_inAllRows cX3_inAllRows 5 (some .int), Cond.methodLink RX3 48 yX3_rowCount]
def wsX7_teams : List Cond := .code yX7_teams cX7_teams 2 (some .int) :: ((wsX7_teams_r1 ++ (wsX7_teams_r2 ++ wsX7_teams_r3)) ++ wsX70 ++ wsX00 ++ wsX30)
def wsX7_leastOf : List Cond := .code yX7_leastOf cX7_leastOf 2 (some .int) :: ([])
def wsX7_teamOf_r1 : List Cond := [Cond.fieldLink RX7 19 "BellTheCat" "told" "LBellTheCat$House;", Cond.fieldLink RX7 51 "BellTheCat" "sightings" "LBellTheCat$Sightings;", Cond.methodLink RX7 128 yX0_hasStep, Cond.instanceMethod yX0_hasStep, Cond.selects RX0 yX0_hasStep yX0_hasStep, Cond.initialized RX0, Cond.code yX0_hasStep cX0_hasStep 2 (some .boolean), Cond.fieldLink RX0 43 "BellTheCat$House" "stepCount" "I", Cond.methodLink RX7 291 yX3_rowCount, Cond.instanceMethod yX3_rowCount, Cond.selects RX3 yX3_rowCount yX3_rowCount, Cond.initialized RX3, Cond.code yX3_rowCount cX3_rowCount 4 (some .int), Cond.fieldLink RX3 35 "BellTheCat$House" "stepCount" "I", Cond.methodLink RX3 38 yX3_possibleAt, Cond.instanceMethod yX3_possibleAt, Cond.selects RX3 yX3_possibleAt yX3_possibleAt, Cond.code yX3_possibleAt cX3_possibleAt 5 (some .int), Cond.fieldLink RX3 22 "BellTheCat$House" "miceCount" "I", Cond.methodLink RX3 27 yX0_dangerAt, Cond.instanceMethod yX0_dangerAt, Cond.selects RX0 yX0_dangerAt yX0_dangerAt, Cond.code yX0_dangerAt cX0_dangerAt 3 (some .int), Cond.fieldLink RX0 24 "BellTheCat$House" "noises" "[I"]
def wsX7_teamOf_r2 : List Cond := [Cond.fieldLink RX0 9 "BellTheCat$House" "kinds" "[I", Cond.fieldLink RX0 15 "BellTheCat$House" "speeds" "[I", Cond.methodLink RX0 70 yX0_hasStep, Cond.methodLink RX0 64 yX0_hasMouse, Cond.instanceMethod yX0_hasMouse, Cond.selects RX0 yX0_hasMouse yX0_hasMouse, Cond.code yX0_hasMouse cX0_hasMouse 2 (some .boolean), Cond.fieldLink RX0 40 "BellTheCat$House" "miceCount" "I", Cond.static yX7_dangerOf, Cond.initialized RX7, Cond.code yX7_dangerOf cX7_dangerOf 4 (some .int), Cond.methodLink RX7 317 Lib.Math.max.name, Cond.static Lib.Math.max.name, Cond.initialized "java/lang/Math", Cond.code Lib.Math.max.name Lib.Math.max.code 2 (some .int), Cond.methodLink RX7 272 Lib.Math.min.name, Cond.static Lib.Math.min.name, Cond.code Lib.Math.min.name Lib.Math.min.code 2 (some .int), Cond.methodLink RX3 31 yX3_isPossible, Cond.instanceMethod yX3_isPossible, Cond.selects RX3 yX3_isPossible yX3_isPossible, Cond.code yX3_isPossible cX3_isPossible 5 (some .boolean), Cond.fieldLink RX3 18 "BellTheCat$Sightings" "size" "I", Cond.fieldLink RX3 9 "BellTheCat$Sightings" "places" "[I"]
def wsX7_teamOf_r3 : List Cond := [Cond.fieldLink RX3 15 "BellTheCat$Sightings" "victims" "[I", Cond.methodLink RX3 42 yJ6_bitCount_0f7a4, Cond.static yJ6_bitCount_0f7a4, Cond.initialized RJ6, Cond.code yJ6_bitCount_0f7a4 cJ6_bitCount_0f7a4 1 (some .int), Cond.constant RJ6 265 (1431655765), Cond.constant RJ6 266 (858993459), Cond.constant RJ6 267 (252645135), Cond.methodLink RX7 298 yX3_possibleAt, Cond.methodLink RX7 302 yX7_leastOf, Cond.static yX7_leastOf, Cond.code yX7_leastOf cX7_leastOf 2 (some .int)]
def wsX7_teamOf : List Cond := .code yX7_teamOf cX7_teamOf 2 (some .int) :: ((wsX7_teamOf_r1 ++ (wsX7_teamOf_r2 ++ wsX7_teamOf_r3)) ++ wsX70 ++ wsX00 ++ wsX30)
def wsX7_count : List Cond := .code yX7_count cX7_count 2 (some .int) :: ([.fieldLink RX7 19 "BellTheCat" "told" "LBellTheCat$House;", .fieldLink RX7 89 "BellTheCat$House" "miceCount" "I", .fieldLink RX7 178 "BellTheCat$House" "stepCount" "I", .fieldLink RX7 262 "BellTheCat$House" "ratCount" "I", .fieldLink RX7 259 "BellTheCat$House" "gain" "I", .fieldLink RX7 29 "BellTheCat" "now" "LBellTheCat$Team;", .fieldLink RX7 184 "BellTheCat$Team" "nights" "I", .fieldLink RX7 223 "BellTheCat$Team" "living" "I", .fieldLink RX7 174 "BellTheCat$Team" "belled" "Z", .fieldLink RX7 51 "BellTheCat" "sightings" "LBellTheCat$Sightings;", .fieldLink RX7 99 "BellTheCat$Sightings" "size" "I", .fieldLink RX7 36 "BellTheCat" "latest" "LBellTheCat$Undo;", .fieldLink RX7 96 "BellTheCat$Undo" "depth" "I", .fieldLink RX7 10 "BellTheCat" "text" "LBellTheCat$Text;", .fieldLink RX7 77 "BellTheCat$Text" "length" "I", .methodLink RX7 168 yX4_filledSteps, .instanceMethod yX4_filledSteps, .selects RX4 yX4_filledSteps yX4_filledSteps, .initialized RX4, .code yX4_filledSteps cX4_filledSteps 3 (some .int), .fieldLink RX4 9 "BellTheCat$Team" "doers" "[I"] ++ wsX70 ++ wsX00 ++ wsX40 ++ wsX30 ++ wsX60 ++ wsX50)
def wsX8_init : List Cond := .code yX8_init cX8_init 1 none :: ([.methodLink RX8 1 objectInit, .instanceMethod objectInit, .code objectInit ⟨#[0xb1]⟩ 1 none, .arrayClass .int, .fieldLink RX8 7 "BellTheCatModel" "text" "[I", .fieldLink RX8 13 "BellTheCatModel" "mice" "[I", .fieldLink RX8 16 "BellTheCatModel" "noise" "[I", .fieldLink RX8 19 "BellTheCatModel" "rats" "[I", .fieldLink RX8 22 "BellTheCatModel" "many" "[I", .fieldLink RX8 25 "BellTheCatModel" "s" "[I", .fieldLink RX8 28 "BellTheCatModel" "before" "[I", .fieldLink RX8 31 "BellTheCatModel" "kept" "[I", .arrayClass .boolean, .fieldLink RX8 34 "BellTheCatModel" "isKept" "[Z", .fieldLink RX8 38 "BellTheCatModel" "seenStep" "[I", .fieldLink RX8 41 "BellTheCatModel" "seenMouse" "[I", .fieldLink RX8 44 "BellTheCatModel" "row" "[I", .fieldLink RX8 47 "BellTheCatModel" "bestRow" "[I"] ++ wsX80)
def wsX8_in : List Cond := .code yX8_in cX8_in 3 (some .boolean) :: ([])
def wsX8_ones : List Cond := .code yX8_ones cX8_ones 3 (some .int) :: ([])
def wsX8_write : List Cond := .code yX8_write cX8_write 2 (some .int) :: ([.fieldLink RX8 50 "BellTheCatModel" "thrown" "I", .fieldLink RX8 58 "BellTheCatModel" "typed" "I", .fieldLink RX8 7 "BellTheCatModel" "text" "[I", .methodLink RX8 54 yX8_in, .static yX8_in, .initialized RX8, .code yX8_in cX8_in 3 (some .boolean)] ++ wsX80)
def wsX8_erase : List Cond := .code yX8_erase cX8_erase 2 (some .int) :: ([.fieldLink RX8 50 "BellTheCatModel" "thrown" "I", .fieldLink RX8 58 "BellTheCatModel" "typed" "I"] ++ wsX80)
def wsX8_letterAt : List Cond := .code yX8_letterAt cX8_letterAt 2 (some .int) :: ([.fieldLink RX8 58 "BellTheCatModel" "typed" "I", .fieldLink RX8 7 "BellTheCatModel" "text" "[I"] ++ wsX80)
def wsX8_isWord : List Cond := .code yX8_isWord cX8_isWord 6 (some .boolean) :: ([.fieldLink RX8 61 "BellTheCatModel" "next" "I", .fieldLink RX8 64 "BellTheCatModel" "place" "I", .constantLong RX8 71 (255), .methodLink RX8 67 yX8_letterAt, .instanceMethod yX8_letterAt, .selects RX8 yX8_letterAt yX8_letterAt, .initialized RX8, .code yX8_letterAt cX8_letterAt 2 (some .int), .fieldLink RX8 58 "BellTheCatModel" "typed" "I", .fieldLink RX8 7 "BellTheCatModel" "text" "[I"] ++ wsX80)
def wsX8_wordOf : List Cond := .code yX8_wordOf cX8_wordOf 1 (some .int) :: ([.constantLong RX8 73 (482854660462), .constantLong RX8 79 (1684365670), .constantLong RX8 81 (109330395394660), .constantLong RX8 83 (422825784933), .constantLong RX8 85 (1937007984), .constantLong RX8 87 (7496052), .constantLong RX8 89 (1734437230), .constantLong RX8 91 (448546567013), .constantLong RX8 93 (487301145972), .methodLink RX8 75 yX8_isWord, .instanceMethod yX8_isWord, .selects RX8 yX8_isWord yX8_isWord, .initialized RX8, .code yX8_isWord cX8_isWord 6 (some .boolean), .fieldLink RX8 61 "BellTheCatModel" "next" "I", .fieldLink RX8 64 "BellTheCatModel" "place" "I", .constantLong RX8 71 (255), .methodLink RX8 67 yX8_letterAt, .instanceMethod yX8_letterAt, .selects RX8 yX8_letterAt yX8_letterAt, .code yX8_letterAt cX8_letterAt 2 (some .int), .fieldLink RX8 58 "BellTheCatModel" "typed" "I", .fieldLink RX8 7 "BellTheCatModel" "text" "[I"] ++ wsX80)
def wsX8_advances_r1 : List Cond := [Cond.fieldLink RX8 61 "BellTheCatModel" "next" "I", Cond.fieldLink RX8 64 "BellTheCatModel" "place" "I", Cond.fieldLink RX8 95 "BellTheCatModel" "token" "I", Cond.fieldLink RX8 102 "BellTheCatModel" "value" "I", Cond.fieldLink RX8 105 "BellTheCatModel" "figures" "I", Cond.methodLink RX8 67 yX8_letterAt, Cond.instanceMethod yX8_letterAt, Cond.selects RX8 yX8_letterAt yX8_letterAt, Cond.initialized RX8, Cond.code yX8_letterAt cX8_letterAt 2 (some .int), Cond.fieldLink RX8 58 "BellTheCatModel" "typed" "I", Cond.fieldLink RX8 7 "BellTheCatModel" "text" "[I", Cond.methodLink RX8 54 yX8_in, Cond.static yX8_in, Cond.code yX8_in cX8_in 3 (some .boolean), Cond.methodLink RX8 98 yX8_wordOf, Cond.instanceMethod yX8_wordOf, Cond.selects RX8 yX8_wordOf yX8_wordOf, Cond.code yX8_wordOf cX8_wordOf 1 (some .int), Cond.constantLong RX8 73 (482854660462), Cond.constantLong RX8 79 (1684365670), Cond.constantLong RX8 81 (109330395394660), Cond.constantLong RX8 83 (422825784933), Cond.constantLong RX8 85 (1937007984)]
def wsX8_advances_r2 : List Cond := [Cond.constantLong RX8 87 (7496052), Cond.constantLong RX8 89 (1734437230), Cond.constantLong RX8 91 (448546567013), Cond.constantLong RX8 93 (487301145972), Cond.methodLink RX8 75 yX8_isWord, Cond.instanceMethod yX8_isWord, Cond.selects RX8 yX8_isWord yX8_isWord, Cond.code yX8_isWord cX8_isWord 6 (some .boolean), Cond.constantLong RX8 71 (255)]
def wsX8_advances : List Cond := .code yX8_advances cX8_advances 2 none :: ((wsX8_advances_r1 ++ wsX8_advances_r2) ++ wsX80)
def wsX8_fails : List Cond := .code yX8_fails cX8_fails 1 none :: ([.fieldLink RX8 108 "BellTheCatModel" "faultAt" "I", .fieldLink RX8 64 "BellTheCatModel" "place" "I"] ++ wsX80)
def wsX8_number_r1 : List Cond := [Cond.fieldLink RX8 95 "BellTheCatModel" "token" "I", Cond.fieldLink RX8 105 "BellTheCatModel" "figures" "I", Cond.fieldLink RX8 102 "BellTheCatModel" "value" "I", Cond.fieldLink RX8 108 "BellTheCatModel" "faultAt" "I", Cond.methodLink RX8 111 yX8_fails, Cond.instanceMethod yX8_fails, Cond.selects RX8 yX8_fails yX8_fails, Cond.initialized RX8, Cond.code yX8_fails cX8_fails 1 none, Cond.fieldLink RX8 64 "BellTheCatModel" "place" "I", Cond.methodLink RX8 114 yX8_advances, Cond.instanceMethod yX8_advances, Cond.selects RX8 yX8_advances yX8_advances, Cond.code yX8_advances cX8_advances 2 none, Cond.fieldLink RX8 61 "BellTheCatModel" "next" "I", Cond.methodLink RX8 67 yX8_letterAt, Cond.instanceMethod yX8_letterAt, Cond.selects RX8 yX8_letterAt yX8_letterAt, Cond.code yX8_letterAt cX8_letterAt 2 (some .int), Cond.fieldLink RX8 58 "BellTheCatModel" "typed" "I", Cond.fieldLink RX8 7 "BellTheCatModel" "text" "[I", Cond.methodLink RX8 54 yX8_in, Cond.static yX8_in, Cond.code yX8_in cX8_in 3 (some .boolean)]
def wsX8_number_r2 : List Cond := [Cond.methodLink RX8 98 yX8_wordOf, Cond.instanceMethod yX8_wordOf, Cond.selects RX8 yX8_wordOf yX8_wordOf, Cond.code yX8_wordOf cX8_wordOf 1 (some .int), Cond.constantLong RX8 73 (482854660462), Cond.constantLong RX8 79 (1684365670), Cond.constantLong RX8 81 (109330395394660), Cond.constantLong RX8 83 (422825784933), Cond.constantLong RX8 85 (1937007984), Cond.constantLong RX8 87 (7496052), Cond.constantLong RX8 89 (1734437230), Cond.constantLong RX8 91 (448546567013), Cond.constantLong RX8 93 (487301145972), Cond.methodLink RX8 75 yX8_isWord, Cond.instanceMethod yX8_isWord, Cond.selects RX8 yX8_isWord yX8_isWord, Cond.code yX8_isWord cX8_isWord 6 (some .boolean), Cond.constantLong RX8 71 (255)]
def wsX8_number : List Cond := .code yX8_number cX8_number 3 (some .int) :: ((wsX8_number_r1 ++ wsX8_number_r2) ++ wsX80)
def wsX8_canStand : List Cond := .code yX8_canStand cX8_canStand 2 (some .boolean) :: ([.fieldLink RX8 22 "BellTheCatModel" "many" "[I"] ++ wsX80)
def wsX8_clause_r1 : List Cond := [Cond.fieldLink RX8 22 "BellTheCatModel" "many" "[I", Cond.fieldLink RX8 13 "BellTheCatModel" "mice" "[I", Cond.fieldLink RX8 16 "BellTheCatModel" "noise" "[I", Cond.fieldLink RX8 19 "BellTheCatModel" "rats" "[I", Cond.methodLink RX8 117 yX8_number, Cond.instanceMethod yX8_number, Cond.selects RX8 yX8_number yX8_number, Cond.initialized RX8, Cond.code yX8_number cX8_number 3 (some .int), Cond.fieldLink RX8 95 "BellTheCatModel" "token" "I", Cond.fieldLink RX8 105 "BellTheCatModel" "figures" "I", Cond.fieldLink RX8 102 "BellTheCatModel" "value" "I", Cond.fieldLink RX8 108 "BellTheCatModel" "faultAt" "I", Cond.methodLink RX8 111 yX8_fails, Cond.instanceMethod yX8_fails, Cond.selects RX8 yX8_fails yX8_fails, Cond.code yX8_fails cX8_fails 1 none, Cond.fieldLink RX8 64 "BellTheCatModel" "place" "I", Cond.methodLink RX8 114 yX8_advances, Cond.instanceMethod yX8_advances, Cond.selects RX8 yX8_advances yX8_advances, Cond.code yX8_advances cX8_advances 2 none, Cond.fieldLink RX8 61 "BellTheCatModel" "next" "I", Cond.methodLink RX8 67 yX8_letterAt]
def wsX8_clause_r2 : List Cond := [Cond.instanceMethod yX8_letterAt, Cond.selects RX8 yX8_letterAt yX8_letterAt, Cond.code yX8_letterAt cX8_letterAt 2 (some .int), Cond.fieldLink RX8 58 "BellTheCatModel" "typed" "I", Cond.fieldLink RX8 7 "BellTheCatModel" "text" "[I", Cond.methodLink RX8 54 yX8_in, Cond.static yX8_in, Cond.code yX8_in cX8_in 3 (some .boolean), Cond.methodLink RX8 98 yX8_wordOf, Cond.instanceMethod yX8_wordOf, Cond.selects RX8 yX8_wordOf yX8_wordOf, Cond.code yX8_wordOf cX8_wordOf 1 (some .int), Cond.constantLong RX8 73 (482854660462), Cond.constantLong RX8 79 (1684365670), Cond.constantLong RX8 81 (109330395394660), Cond.constantLong RX8 83 (422825784933), Cond.constantLong RX8 85 (1937007984), Cond.constantLong RX8 87 (7496052), Cond.constantLong RX8 89 (1734437230), Cond.constantLong RX8 91 (448546567013), Cond.constantLong RX8 93 (487301145972), Cond.methodLink RX8 75 yX8_isWord, Cond.instanceMethod yX8_isWord, Cond.selects RX8 yX8_isWord yX8_isWord]
def wsX8_clause_r3 : List Cond := [Cond.code yX8_isWord cX8_isWord 6 (some .boolean), Cond.constantLong RX8 71 (255)]
def wsX8_clause : List Cond := .code yX8_clause cX8_clause 3 none :: ((wsX8_clause_r1 ++ (wsX8_clause_r2 ++ wsX8_clause_r3)) ++ wsX80)
def wsX8_drafts : List Cond := .code yX8_drafts cX8_drafts 2 none :: ([.fieldLink RX8 13 "BellTheCatModel" "mice" "[I", .fieldLink RX8 16 "BellTheCatModel" "noise" "[I", .fieldLink RX8 19 "BellTheCatModel" "rats" "[I", .fieldLink RX8 22 "BellTheCatModel" "many" "[I"] ++ wsX80)
def wsX8_reads_r1 : List Cond := [Cond.fieldLink RX8 108 "BellTheCatModel" "faultAt" "I", Cond.fieldLink RX8 61 "BellTheCatModel" "next" "I", Cond.fieldLink RX8 123 "BellTheCatModel" "clauses" "I", Cond.fieldLink RX8 64 "BellTheCatModel" "place" "I", Cond.fieldLink RX8 95 "BellTheCatModel" "token" "I", Cond.fieldLink RX8 102 "BellTheCatModel" "value" "I", Cond.methodLink RX8 120 yX8_drafts, Cond.instanceMethod yX8_drafts, Cond.selects RX8 yX8_drafts yX8_drafts, Cond.initialized RX8, Cond.code yX8_drafts cX8_drafts 2 none, Cond.fieldLink RX8 13 "BellTheCatModel" "mice" "[I", Cond.fieldLink RX8 16 "BellTheCatModel" "noise" "[I", Cond.fieldLink RX8 19 "BellTheCatModel" "rats" "[I", Cond.fieldLink RX8 22 "BellTheCatModel" "many" "[I", Cond.methodLink RX8 114 yX8_advances, Cond.instanceMethod yX8_advances, Cond.selects RX8 yX8_advances yX8_advances, Cond.code yX8_advances cX8_advances 2 none, Cond.fieldLink RX8 105 "BellTheCatModel" "figures" "I", Cond.methodLink RX8 67 yX8_letterAt, Cond.instanceMethod yX8_letterAt, Cond.selects RX8 yX8_letterAt yX8_letterAt, Cond.code yX8_letterAt cX8_letterAt 2 (some .int)]
def wsX8_reads_r2 : List Cond := [Cond.fieldLink RX8 58 "BellTheCatModel" "typed" "I", Cond.fieldLink RX8 7 "BellTheCatModel" "text" "[I", Cond.methodLink RX8 54 yX8_in, Cond.static yX8_in, Cond.code yX8_in cX8_in 3 (some .boolean), Cond.methodLink RX8 98 yX8_wordOf, Cond.instanceMethod yX8_wordOf, Cond.selects RX8 yX8_wordOf yX8_wordOf, Cond.code yX8_wordOf cX8_wordOf 1 (some .int), Cond.constantLong RX8 73 (482854660462), Cond.constantLong RX8 79 (1684365670), Cond.constantLong RX8 81 (109330395394660), Cond.constantLong RX8 83 (422825784933), Cond.constantLong RX8 85 (1937007984), Cond.constantLong RX8 87 (7496052), Cond.constantLong RX8 89 (1734437230), Cond.constantLong RX8 91 (448546567013), Cond.constantLong RX8 93 (487301145972), Cond.methodLink RX8 75 yX8_isWord, Cond.instanceMethod yX8_isWord, Cond.selects RX8 yX8_isWord yX8_isWord, Cond.code yX8_isWord cX8_isWord 6 (some .boolean), Cond.constantLong RX8 71 (255), Cond.methodLink RX8 126 yX8_canStand]
def wsX8_reads_r3 : List Cond := [Cond.instanceMethod yX8_canStand, Cond.selects RX8 yX8_canStand yX8_canStand, Cond.code yX8_canStand cX8_canStand 2 (some .boolean), Cond.methodLink RX8 111 yX8_fails, Cond.instanceMethod yX8_fails, Cond.selects RX8 yX8_fails yX8_fails, Cond.code yX8_fails cX8_fails 1 none, Cond.methodLink RX8 130 yX8_clause, Cond.instanceMethod yX8_clause, Cond.selects RX8 yX8_clause yX8_clause, Cond.code yX8_clause cX8_clause 3 none, Cond.methodLink RX8 117 yX8_number, Cond.instanceMethod yX8_number, Cond.selects RX8 yX8_number yX8_number, Cond.code yX8_number cX8_number 3 (some .int)]
def wsX8_reads : List Cond := .code yX8_reads cX8_reads 4 none :: ((wsX8_reads_r1 ++ (wsX8_reads_r2 ++ wsX8_reads_r3)) ++ wsX80)
def wsX8_fault_r1 : List Cond := [Cond.fieldLink RX8 50 "BellTheCatModel" "thrown" "I", Cond.fieldLink RX8 108 "BellTheCatModel" "faultAt" "I", Cond.methodLink RX8 134 yX8_reads, Cond.instanceMethod yX8_reads, Cond.selects RX8 yX8_reads yX8_reads, Cond.initialized RX8, Cond.code yX8_reads cX8_reads 4 none, Cond.fieldLink RX8 61 "BellTheCatModel" "next" "I", Cond.fieldLink RX8 123 "BellTheCatModel" "clauses" "I", Cond.fieldLink RX8 64 "BellTheCatModel" "place" "I", Cond.fieldLink RX8 95 "BellTheCatModel" "token" "I", Cond.fieldLink RX8 102 "BellTheCatModel" "value" "I", Cond.methodLink RX8 120 yX8_drafts, Cond.instanceMethod yX8_drafts, Cond.selects RX8 yX8_drafts yX8_drafts, Cond.code yX8_drafts cX8_drafts 2 none, Cond.fieldLink RX8 13 "BellTheCatModel" "mice" "[I", Cond.fieldLink RX8 16 "BellTheCatModel" "noise" "[I", Cond.fieldLink RX8 19 "BellTheCatModel" "rats" "[I", Cond.fieldLink RX8 22 "BellTheCatModel" "many" "[I", Cond.methodLink RX8 114 yX8_advances, Cond.instanceMethod yX8_advances, Cond.selects RX8 yX8_advances yX8_advances, Cond.code yX8_advances cX8_advances 2 none]
def wsX8_fault_r2 : List Cond := [Cond.fieldLink RX8 105 "BellTheCatModel" "figures" "I", Cond.methodLink RX8 67 yX8_letterAt, Cond.instanceMethod yX8_letterAt, Cond.selects RX8 yX8_letterAt yX8_letterAt, Cond.code yX8_letterAt cX8_letterAt 2 (some .int), Cond.fieldLink RX8 58 "BellTheCatModel" "typed" "I", Cond.fieldLink RX8 7 "BellTheCatModel" "text" "[I", Cond.methodLink RX8 54 yX8_in, Cond.static yX8_in, Cond.code yX8_in cX8_in 3 (some .boolean), Cond.methodLink RX8 98 yX8_wordOf, Cond.instanceMethod yX8_wordOf, Cond.selects RX8 yX8_wordOf yX8_wordOf, Cond.code yX8_wordOf cX8_wordOf 1 (some .int), Cond.constantLong RX8 73 (482854660462), Cond.constantLong RX8 79 (1684365670), Cond.constantLong RX8 81 (109330395394660), Cond.constantLong RX8 83 (422825784933), Cond.constantLong RX8 85 (1937007984), Cond.constantLong RX8 87 (7496052), Cond.constantLong RX8 89 (1734437230), Cond.constantLong RX8 91 (448546567013), Cond.constantLong RX8 93 (487301145972), Cond.methodLink RX8 75 yX8_isWord]
def wsX8_fault_r3 : List Cond := [Cond.instanceMethod yX8_isWord, Cond.selects RX8 yX8_isWord yX8_isWord, Cond.code yX8_isWord cX8_isWord 6 (some .boolean), Cond.constantLong RX8 71 (255), Cond.methodLink RX8 126 yX8_canStand, Cond.instanceMethod yX8_canStand, Cond.selects RX8 yX8_canStand yX8_canStand, Cond.code yX8_canStand cX8_canStand 2 (some .boolean), Cond.methodLink RX8 111 yX8_fails, Cond.instanceMethod yX8_fails, Cond.selects RX8 yX8_fails yX8_fails, Cond.code yX8_fails cX8_fails 1 none, Cond.methodLink RX8 130 yX8_clause, Cond.instanceMethod yX8_clause, Cond.selects RX8 yX8_clause yX8_clause, Cond.code yX8_clause cX8_clause 3 none, Cond.methodLink RX8 117 yX8_number, Cond.instanceMethod yX8_number, Cond.selects RX8 yX8_number yX8_number, Cond.code yX8_number cX8_number 3 (some .int)]
def wsX8_fault : List Cond := .code yX8_fault cX8_fault 1 (some .int) :: ((wsX8_fault_r1 ++ (wsX8_fault_r2 ++ wsX8_fault_r3)) ++ wsX80)
def wsX8_house_r1 : List Cond := [Cond.fieldLink RX8 50 "BellTheCatModel" "thrown" "I", Cond.fieldLink RX8 108 "BellTheCatModel" "faultAt" "I", Cond.fieldLink RX8 13 "BellTheCatModel" "mice" "[I", Cond.fieldLink RX8 16 "BellTheCatModel" "noise" "[I", Cond.fieldLink RX8 19 "BellTheCatModel" "rats" "[I", Cond.fieldLink RX8 22 "BellTheCatModel" "many" "[I", Cond.fieldLink RX8 25 "BellTheCatModel" "s" "[I", Cond.fieldLink RX8 58 "BellTheCatModel" "typed" "I", Cond.fieldLink RX8 137 "BellTheCatModel" "undos" "I", Cond.fieldLink RX8 140 "BellTheCatModel" "seenMany" "I", Cond.fieldLink RX8 34 "BellTheCatModel" "isKept" "[Z", Cond.fieldLink RX8 123 "BellTheCatModel" "clauses" "I", Cond.methodLink RX8 134 yX8_reads, Cond.instanceMethod yX8_reads, Cond.selects RX8 yX8_reads yX8_reads, Cond.initialized RX8, Cond.code yX8_reads cX8_reads 4 none, Cond.fieldLink RX8 61 "BellTheCatModel" "next" "I", Cond.fieldLink RX8 64 "BellTheCatModel" "place" "I", Cond.fieldLink RX8 95 "BellTheCatModel" "token" "I", Cond.fieldLink RX8 102 "BellTheCatModel" "value" "I", Cond.methodLink RX8 120 yX8_drafts, Cond.instanceMethod yX8_drafts, Cond.selects RX8 yX8_drafts yX8_drafts]
def wsX8_house_r2 : List Cond := [Cond.code yX8_drafts cX8_drafts 2 none, Cond.methodLink RX8 114 yX8_advances, Cond.instanceMethod yX8_advances, Cond.selects RX8 yX8_advances yX8_advances, Cond.code yX8_advances cX8_advances 2 none, Cond.fieldLink RX8 105 "BellTheCatModel" "figures" "I", Cond.methodLink RX8 67 yX8_letterAt, Cond.instanceMethod yX8_letterAt, Cond.selects RX8 yX8_letterAt yX8_letterAt, Cond.code yX8_letterAt cX8_letterAt 2 (some .int), Cond.fieldLink RX8 7 "BellTheCatModel" "text" "[I", Cond.methodLink RX8 54 yX8_in, Cond.static yX8_in, Cond.code yX8_in cX8_in 3 (some .boolean), Cond.methodLink RX8 98 yX8_wordOf, Cond.instanceMethod yX8_wordOf, Cond.selects RX8 yX8_wordOf yX8_wordOf, Cond.code yX8_wordOf cX8_wordOf 1 (some .int), Cond.constantLong RX8 73 (482854660462), Cond.constantLong RX8 79 (1684365670), Cond.constantLong RX8 81 (109330395394660), Cond.constantLong RX8 83 (422825784933), Cond.constantLong RX8 85 (1937007984), Cond.constantLong RX8 87 (7496052)]
def wsX8_house_r3 : List Cond := [Cond.constantLong RX8 89 (1734437230), Cond.constantLong RX8 91 (448546567013), Cond.constantLong RX8 93 (487301145972), Cond.methodLink RX8 75 yX8_isWord, Cond.instanceMethod yX8_isWord, Cond.selects RX8 yX8_isWord yX8_isWord, Cond.code yX8_isWord cX8_isWord 6 (some .boolean), Cond.constantLong RX8 71 (255), Cond.methodLink RX8 126 yX8_canStand, Cond.instanceMethod yX8_canStand, Cond.selects RX8 yX8_canStand yX8_canStand, Cond.code yX8_canStand cX8_canStand 2 (some .boolean), Cond.methodLink RX8 111 yX8_fails, Cond.instanceMethod yX8_fails, Cond.selects RX8 yX8_fails yX8_fails, Cond.code yX8_fails cX8_fails 1 none, Cond.methodLink RX8 130 yX8_clause, Cond.instanceMethod yX8_clause, Cond.selects RX8 yX8_clause yX8_clause, Cond.code yX8_clause cX8_clause 3 none, Cond.methodLink RX8 117 yX8_number, Cond.instanceMethod yX8_number, Cond.selects RX8 yX8_number yX8_number, Cond.code yX8_number cX8_number 3 (some .int)]
def wsX8_house : List Cond := .code yX8_house cX8_house 2 (some .int) :: ((wsX8_house_r1 ++ (wsX8_house_r2 ++ wsX8_house_r3)) ++ wsX80)
def wsX8_isMouse : List Cond := .code yX8_isMouse cX8_isMouse 2 (some .boolean) :: ([.fieldLink RX8 22 "BellTheCatModel" "many" "[I", .methodLink RX8 54 yX8_in, .static yX8_in, .initialized RX8, .code yX8_in cX8_in 3 (some .boolean)] ++ wsX80)
def wsX8_isStep : List Cond := .code yX8_isStep cX8_isStep 2 (some .boolean) :: ([.fieldLink RX8 22 "BellTheCatModel" "many" "[I", .methodLink RX8 54 yX8_in, .static yX8_in, .initialized RX8, .code yX8_in cX8_in 3 (some .boolean)] ++ wsX80)
def wsX8_isLiving : List Cond := .code yX8_isLiving cX8_isLiving 2 (some .boolean) :: ([.fieldLink RX8 25 "BellTheCatModel" "s" "[I"] ++ wsX80)
def wsX8_stepsOf : List Cond := .code yX8_stepsOf cX8_stepsOf 4 (some .int) :: ([.fieldLink RX8 22 "BellTheCatModel" "many" "[I", .fieldLink RX8 25 "BellTheCatModel" "s" "[I"] ++ wsX80)
def wsX8_mouse : List Cond := .code yX8_mouse cX8_mouse 3 (some .int) :: ([.fieldLink RX8 50 "BellTheCatModel" "thrown" "I", .fieldLink RX8 13 "BellTheCatModel" "mice" "[I", .methodLink RX8 143 yX8_isMouse, .instanceMethod yX8_isMouse, .selects RX8 yX8_isMouse yX8_isMouse, .initialized RX8, .code yX8_isMouse cX8_isMouse 2 (some .boolean), .fieldLink RX8 22 "BellTheCatModel" "many" "[I", .methodLink RX8 54 yX8_in, .static yX8_in, .code yX8_in cX8_in 3 (some .boolean), .methodLink RX8 146 yX8_isLiving, .instanceMethod yX8_isLiving, .selects RX8 yX8_isLiving yX8_isLiving, .code yX8_isLiving cX8_isLiving 2 (some .boolean), .fieldLink RX8 25 "BellTheCatModel" "s" "[I", .methodLink RX8 149 yX8_stepsOf, .instanceMethod yX8_stepsOf, .selects RX8 yX8_stepsOf yX8_stepsOf, .code yX8_stepsOf cX8_stepsOf 4 (some .int)] ++ wsX80)
def wsX8_step : List Cond := .code yX8_step cX8_step 3 (some .int) :: ([.fieldLink RX8 50 "BellTheCatModel" "thrown" "I", .fieldLink RX8 16 "BellTheCatModel" "noise" "[I", .fieldLink RX8 25 "BellTheCatModel" "s" "[I", .methodLink RX8 152 yX8_isStep, .instanceMethod yX8_isStep, .selects RX8 yX8_isStep yX8_isStep, .initialized RX8, .code yX8_isStep cX8_isStep 2 (some .boolean), .fieldLink RX8 22 "BellTheCatModel" "many" "[I", .methodLink RX8 54 yX8_in, .static yX8_in, .code yX8_in cX8_in 3 (some .boolean)] ++ wsX80)
def wsX8_rat : List Cond := .code yX8_rat cX8_rat 3 (some .int) :: ([.fieldLink RX8 50 "BellTheCatModel" "thrown" "I", .fieldLink RX8 22 "BellTheCatModel" "many" "[I", .fieldLink RX8 19 "BellTheCatModel" "rats" "[I", .methodLink RX8 54 yX8_in, .static yX8_in, .initialized RX8, .code yX8_in cX8_in 3 (some .boolean)] ++ wsX80)
def wsX8_dangerBy : List Cond := .code yX8_dangerBy cX8_dangerBy 4 (some .int) :: ([])
def wsX8_dangerTo : List Cond := .code yX8_dangerTo cX8_dangerTo 3 (some .int) :: ([.fieldLink RX8 13 "BellTheCatModel" "mice" "[I", .fieldLink RX8 16 "BellTheCatModel" "noise" "[I", .methodLink RX8 155 yX8_dangerBy, .static yX8_dangerBy, .initialized RX8, .code yX8_dangerBy cX8_dangerBy 4 (some .int)] ++ wsX80)
def wsX8_as : List Cond := .code yX8_as cX8_as 5 (some .int) :: ([.fieldLink RX8 50 "BellTheCatModel" "thrown" "I", .fieldLink RX8 13 "BellTheCatModel" "mice" "[I", .methodLink RX8 143 yX8_isMouse, .instanceMethod yX8_isMouse, .selects RX8 yX8_isMouse yX8_isMouse, .initialized RX8, .code yX8_isMouse cX8_isMouse 2 (some .boolean), .fieldLink RX8 22 "BellTheCatModel" "many" "[I", .methodLink RX8 54 yX8_in, .static yX8_in, .code yX8_in cX8_in 3 (some .boolean), .methodLink RX8 155 yX8_dangerBy, .static yX8_dangerBy, .code yX8_dangerBy cX8_dangerBy 4 (some .int)] ++ wsX80)
def wsX8_danger : List Cond := .code yX8_danger cX8_danger 3 (some .int) :: ([.fieldLink RX8 50 "BellTheCatModel" "thrown" "I", .methodLink RX8 152 yX8_isStep, .instanceMethod yX8_isStep, .selects RX8 yX8_isStep yX8_isStep, .initialized RX8, .code yX8_isStep cX8_isStep 2 (some .boolean), .fieldLink RX8 22 "BellTheCatModel" "many" "[I", .methodLink RX8 54 yX8_in, .static yX8_in, .code yX8_in cX8_in 3 (some .boolean), .methodLink RX8 143 yX8_isMouse, .instanceMethod yX8_isMouse, .selects RX8 yX8_isMouse yX8_isMouse, .code yX8_isMouse cX8_isMouse 2 (some .boolean), .methodLink RX8 159 yX8_dangerTo, .instanceMethod yX8_dangerTo, .selects RX8 yX8_dangerTo yX8_dangerTo, .code yX8_dangerTo cX8_dangerTo 3 (some .int), .fieldLink RX8 13 "BellTheCatModel" "mice" "[I", .fieldLink RX8 16 "BellTheCatModel" "noise" "[I", .methodLink RX8 155 yX8_dangerBy, .static yX8_dangerBy, .code yX8_dangerBy cX8_dangerBy 4 (some .int)] ++ wsX80)
def wsX8_done : List Cond := .code yX8_done cX8_done 3 (some .int) :: ([.fieldLink RX8 22 "BellTheCatModel" "many" "[I", .fieldLink RX8 25 "BellTheCatModel" "s" "[I"] ++ wsX80)
def wsX8_notes : List Cond := .code yX8_notes cX8_notes 2 none :: ([.fieldLink RX8 137 "BellTheCatModel" "undos" "I", .fieldLink RX8 28 "BellTheCatModel" "before" "[I", .fieldLink RX8 25 "BellTheCatModel" "s" "[I"] ++ wsX80)
def wsX8_put_r1 : List Cond := [Cond.fieldLink RX8 50 "BellTheCatModel" "thrown" "I", Cond.fieldLink RX8 25 "BellTheCatModel" "s" "[I", Cond.methodLink RX8 152 yX8_isStep, Cond.instanceMethod yX8_isStep, Cond.selects RX8 yX8_isStep yX8_isStep, Cond.initialized RX8, Cond.code yX8_isStep cX8_isStep 2 (some .boolean), Cond.fieldLink RX8 22 "BellTheCatModel" "many" "[I", Cond.methodLink RX8 54 yX8_in, Cond.static yX8_in, Cond.code yX8_in cX8_in 3 (some .boolean), Cond.methodLink RX8 143 yX8_isMouse, Cond.instanceMethod yX8_isMouse, Cond.selects RX8 yX8_isMouse yX8_isMouse, Cond.code yX8_isMouse cX8_isMouse 2 (some .boolean), Cond.methodLink RX8 146 yX8_isLiving, Cond.instanceMethod yX8_isLiving, Cond.selects RX8 yX8_isLiving yX8_isLiving, Cond.code yX8_isLiving cX8_isLiving 2 (some .boolean), Cond.methodLink RX8 163 yX8_notes, Cond.instanceMethod yX8_notes, Cond.selects RX8 yX8_notes yX8_notes, Cond.code yX8_notes cX8_notes 2 none, Cond.fieldLink RX8 137 "BellTheCatModel" "undos" "I"]
def wsX8_put_r2 : List Cond := [Cond.fieldLink RX8 28 "BellTheCatModel" "before" "[I", Cond.methodLink RX8 166 yX8_done, Cond.instanceMethod yX8_done, Cond.selects RX8 yX8_done yX8_done, Cond.code yX8_done cX8_done 3 (some .int)]
def wsX8_put : List Cond := .code yX8_put cX8_put 3 (some .int) :: ((wsX8_put_r1 ++ wsX8_put_r2) ++ wsX80)
def wsX8_clear : List Cond := .code yX8_clear cX8_clear 3 (some .int) :: ([.fieldLink RX8 50 "BellTheCatModel" "thrown" "I", .fieldLink RX8 25 "BellTheCatModel" "s" "[I", .methodLink RX8 166 yX8_done, .instanceMethod yX8_done, .selects RX8 yX8_done yX8_done, .initialized RX8, .code yX8_done cX8_done 3 (some .int), .fieldLink RX8 22 "BellTheCatModel" "many" "[I", .methodLink RX8 163 yX8_notes, .instanceMethod yX8_notes, .selects RX8 yX8_notes yX8_notes, .code yX8_notes cX8_notes 2 none, .fieldLink RX8 137 "BellTheCatModel" "undos" "I", .fieldLink RX8 28 "BellTheCatModel" "before" "[I"] ++ wsX80)
def wsX8_isWhole : List Cond := .code yX8_isWhole cX8_isWhole 1 (some .boolean) :: ([.fieldLink RX8 22 "BellTheCatModel" "many" "[I", .methodLink RX8 166 yX8_done, .instanceMethod yX8_done, .selects RX8 yX8_done yX8_done, .initialized RX8, .code yX8_done cX8_done 3 (some .int), .fieldLink RX8 25 "BellTheCatModel" "s" "[I"] ++ wsX80)
def wsX8_drawOf : List Cond := .code yX8_drawOf cX8_drawOf 5 (some .int) :: ([.constantLong RX8 169 (7919), .constantLong RX8 171 (6151), .constantLong RX8 173 (65521), .constantLong RX8 175 (10)])
def wsX8_night_r1 : List Cond := [Cond.fieldLink RX8 50 "BellTheCatModel" "thrown" "I", Cond.fieldLink RX8 25 "BellTheCatModel" "s" "[I", Cond.fieldLink RX8 22 "BellTheCatModel" "many" "[I", Cond.methodLink RX8 54 yX8_in, Cond.static yX8_in, Cond.initialized RX8, Cond.code yX8_in cX8_in 3 (some .boolean), Cond.methodLink RX8 177 yX8_isWhole, Cond.instanceMethod yX8_isWhole, Cond.selects RX8 yX8_isWhole yX8_isWhole, Cond.code yX8_isWhole cX8_isWhole 1 (some .boolean), Cond.methodLink RX8 166 yX8_done, Cond.instanceMethod yX8_done, Cond.selects RX8 yX8_done yX8_done, Cond.code yX8_done cX8_done 3 (some .int), Cond.methodLink RX8 163 yX8_notes, Cond.instanceMethod yX8_notes, Cond.selects RX8 yX8_notes yX8_notes, Cond.code yX8_notes cX8_notes 2 none, Cond.fieldLink RX8 137 "BellTheCatModel" "undos" "I", Cond.fieldLink RX8 28 "BellTheCatModel" "before" "[I", Cond.methodLink RX8 181 yX8_drawOf, Cond.instanceMethod yX8_drawOf, Cond.selects RX8 yX8_drawOf yX8_drawOf]
def wsX8_night_r2 : List Cond := [Cond.code yX8_drawOf cX8_drawOf 5 (some .int), Cond.constantLong RX8 169 (7919), Cond.constantLong RX8 171 (6151), Cond.constantLong RX8 173 (65521), Cond.constantLong RX8 175 (10), Cond.methodLink RX8 159 yX8_dangerTo, Cond.instanceMethod yX8_dangerTo, Cond.selects RX8 yX8_dangerTo yX8_dangerTo, Cond.code yX8_dangerTo cX8_dangerTo 3 (some .int), Cond.fieldLink RX8 13 "BellTheCatModel" "mice" "[I", Cond.fieldLink RX8 16 "BellTheCatModel" "noise" "[I", Cond.methodLink RX8 155 yX8_dangerBy, Cond.static yX8_dangerBy, Cond.code yX8_dangerBy cX8_dangerBy 4 (some .int)]
def wsX8_night : List Cond := .code yX8_night cX8_night 5 (some .int) :: ((wsX8_night_r1 ++ wsX8_night_r2) ++ wsX80)
def wsX8_undo : List Cond := .code yX8_undo cX8_undo 2 (some .int) :: ([.fieldLink RX8 50 "BellTheCatModel" "thrown" "I", .fieldLink RX8 137 "BellTheCatModel" "undos" "I", .fieldLink RX8 25 "BellTheCatModel" "s" "[I", .fieldLink RX8 28 "BellTheCatModel" "before" "[I"] ++ wsX80)
def wsX8_keep : List Cond := .code yX8_keep cX8_keep 3 (some .int) :: ([.fieldLink RX8 50 "BellTheCatModel" "thrown" "I", .fieldLink RX8 31 "BellTheCatModel" "kept" "[I", .fieldLink RX8 25 "BellTheCatModel" "s" "[I", .fieldLink RX8 34 "BellTheCatModel" "isKept" "[Z", .methodLink RX8 54 yX8_in, .static yX8_in, .initialized RX8, .code yX8_in cX8_in 3 (some .boolean)] ++ wsX80)
def wsX8_back : List Cond := .code yX8_back cX8_back 3 (some .int) :: ([.fieldLink RX8 50 "BellTheCatModel" "thrown" "I", .fieldLink RX8 34 "BellTheCatModel" "isKept" "[Z", .fieldLink RX8 25 "BellTheCatModel" "s" "[I", .fieldLink RX8 31 "BellTheCatModel" "kept" "[I", .fieldLink RX8 137 "BellTheCatModel" "undos" "I", .methodLink RX8 54 yX8_in, .static yX8_in, .initialized RX8, .code yX8_in cX8_in 3 (some .boolean)] ++ wsX80)
def wsX8_gcd : List Cond := .code yX8_gcd cX8_gcd 10 (some .long) :: ([])
def wsX8_part : List Cond := .code yX8_part cX8_part 7 (some .long) :: ([.methodLink RX8 184 yX8_gcd, .static yX8_gcd, .initialized RX8, .code yX8_gcd cX8_gcd 10 (some .long)])
def wsX8_power : List Cond := .code yX8_power cX8_power 6 (some .long) :: ([])
def wsX8_isPart : List Cond := .code yX8_isPart cX8_isPart 1 (some .boolean) :: ([])
def wsX8_throughTo : List Cond := .code yX8_throughTo cX8_throughTo 5 (some .long) :: ([.fieldLink RX8 25 "BellTheCatModel" "s" "[I", .methodLink RX8 159 yX8_dangerTo, .instanceMethod yX8_dangerTo, .selects RX8 yX8_dangerTo yX8_dangerTo, .initialized RX8, .code yX8_dangerTo cX8_dangerTo 3 (some .int), .fieldLink RX8 13 "BellTheCatModel" "mice" "[I", .fieldLink RX8 16 "BellTheCatModel" "noise" "[I", .methodLink RX8 155 yX8_dangerBy, .static yX8_dangerBy, .code yX8_dangerBy cX8_dangerBy 4 (some .int)] ++ wsX80)
def wsX8_through_r1 : List Cond := [Cond.fieldLink RX8 50 "BellTheCatModel" "thrown" "I", Cond.fieldLink RX8 22 "BellTheCatModel" "many" "[I", Cond.constantLong RX8 175 (10), Cond.methodLink RX8 188 yX8_isPart, Cond.static yX8_isPart, Cond.initialized RX8, Cond.code yX8_isPart cX8_isPart 1 (some .boolean), Cond.methodLink RX8 177 yX8_isWhole, Cond.instanceMethod yX8_isWhole, Cond.selects RX8 yX8_isWhole yX8_isWhole, Cond.code yX8_isWhole cX8_isWhole 1 (some .boolean), Cond.methodLink RX8 166 yX8_done, Cond.instanceMethod yX8_done, Cond.selects RX8 yX8_done yX8_done, Cond.code yX8_done cX8_done 3 (some .int), Cond.fieldLink RX8 25 "BellTheCatModel" "s" "[I", Cond.methodLink RX8 191 yX8_throughTo, Cond.instanceMethod yX8_throughTo, Cond.selects RX8 yX8_throughTo yX8_throughTo, Cond.code yX8_throughTo cX8_throughTo 5 (some .long), Cond.methodLink RX8 159 yX8_dangerTo, Cond.instanceMethod yX8_dangerTo, Cond.selects RX8 yX8_dangerTo yX8_dangerTo, Cond.code yX8_dangerTo cX8_dangerTo 3 (some .int)]
def wsX8_through_r2 : List Cond := [Cond.fieldLink RX8 13 "BellTheCatModel" "mice" "[I", Cond.fieldLink RX8 16 "BellTheCatModel" "noise" "[I", Cond.methodLink RX8 155 yX8_dangerBy, Cond.static yX8_dangerBy, Cond.code yX8_dangerBy cX8_dangerBy 4 (some .int), Cond.methodLink RX8 195 yX8_power, Cond.static yX8_power, Cond.code yX8_power cX8_power 6 (some .long), Cond.methodLink RX8 199 yX8_part, Cond.static yX8_part, Cond.code yX8_part cX8_part 7 (some .long), Cond.methodLink RX8 184 yX8_gcd, Cond.static yX8_gcd, Cond.code yX8_gcd cX8_gcd 10 (some .long)]
def wsX8_through : List Cond := .code yX8_through cX8_through 2 (some .int) :: ((wsX8_through_r1 ++ wsX8_through_r2) ++ wsX80)
def wsX8_fails__r1 : List Cond := [Cond.fieldLink RX8 50 "BellTheCatModel" "thrown" "I", Cond.fieldLink RX8 25 "BellTheCatModel" "s" "[I", Cond.constantLong RX8 175 (10), Cond.methodLink RX8 152 yX8_isStep, Cond.instanceMethod yX8_isStep, Cond.selects RX8 yX8_isStep yX8_isStep, Cond.initialized RX8, Cond.code yX8_isStep cX8_isStep 2 (some .boolean), Cond.fieldLink RX8 22 "BellTheCatModel" "many" "[I", Cond.methodLink RX8 54 yX8_in, Cond.static yX8_in, Cond.code yX8_in cX8_in 3 (some .boolean), Cond.methodLink RX8 188 yX8_isPart, Cond.static yX8_isPart, Cond.code yX8_isPart cX8_isPart 1 (some .boolean), Cond.methodLink RX8 177 yX8_isWhole, Cond.instanceMethod yX8_isWhole, Cond.selects RX8 yX8_isWhole yX8_isWhole, Cond.code yX8_isWhole cX8_isWhole 1 (some .boolean), Cond.methodLink RX8 166 yX8_done, Cond.instanceMethod yX8_done, Cond.selects RX8 yX8_done yX8_done, Cond.code yX8_done cX8_done 3 (some .int), Cond.methodLink RX8 191 yX8_throughTo]
def wsX8_fails__r2 : List Cond := [Cond.instanceMethod yX8_throughTo, Cond.selects RX8 yX8_throughTo yX8_throughTo, Cond.code yX8_throughTo cX8_throughTo 5 (some .long), Cond.methodLink RX8 159 yX8_dangerTo, Cond.instanceMethod yX8_dangerTo, Cond.selects RX8 yX8_dangerTo yX8_dangerTo, Cond.code yX8_dangerTo cX8_dangerTo 3 (some .int), Cond.fieldLink RX8 13 "BellTheCatModel" "mice" "[I", Cond.fieldLink RX8 16 "BellTheCatModel" "noise" "[I", Cond.methodLink RX8 155 yX8_dangerBy, Cond.static yX8_dangerBy, Cond.code yX8_dangerBy cX8_dangerBy 4 (some .int), Cond.methodLink RX8 195 yX8_power, Cond.static yX8_power, Cond.code yX8_power cX8_power 6 (some .long), Cond.methodLink RX8 199 yX8_part, Cond.static yX8_part, Cond.code yX8_part cX8_part 7 (some .long), Cond.methodLink RX8 184 yX8_gcd, Cond.static yX8_gcd, Cond.code yX8_gcd cX8_gcd 10 (some .long)]
def wsX8_fails_ : List Cond := .code yX8_fails_ cX8_fails_ 3 (some .int) :: ((wsX8_fails__r1 ++ wsX8_fails__r2) ++ wsX80)
def wsX8_loss_r1 : List Cond := [Cond.fieldLink RX8 50 "BellTheCatModel" "thrown" "I", Cond.fieldLink RX8 22 "BellTheCatModel" "many" "[I", Cond.fieldLink RX8 25 "BellTheCatModel" "s" "[I", Cond.fieldLink RX8 13 "BellTheCatModel" "mice" "[I", Cond.constantLong RX8 175 (10), Cond.methodLink RX8 188 yX8_isPart, Cond.static yX8_isPart, Cond.initialized RX8, Cond.code yX8_isPart cX8_isPart 1 (some .boolean), Cond.methodLink RX8 177 yX8_isWhole, Cond.instanceMethod yX8_isWhole, Cond.selects RX8 yX8_isWhole yX8_isWhole, Cond.code yX8_isWhole cX8_isWhole 1 (some .boolean), Cond.methodLink RX8 166 yX8_done, Cond.instanceMethod yX8_done, Cond.selects RX8 yX8_done yX8_done, Cond.code yX8_done cX8_done 3 (some .int), Cond.methodLink RX8 191 yX8_throughTo, Cond.instanceMethod yX8_throughTo, Cond.selects RX8 yX8_throughTo yX8_throughTo, Cond.code yX8_throughTo cX8_throughTo 5 (some .long), Cond.methodLink RX8 159 yX8_dangerTo, Cond.instanceMethod yX8_dangerTo, Cond.selects RX8 yX8_dangerTo yX8_dangerTo]
def wsX8_loss_r2 : List Cond := [Cond.code yX8_dangerTo cX8_dangerTo 3 (some .int), Cond.fieldLink RX8 16 "BellTheCatModel" "noise" "[I", Cond.methodLink RX8 155 yX8_dangerBy, Cond.static yX8_dangerBy, Cond.code yX8_dangerBy cX8_dangerBy 4 (some .int), Cond.methodLink RX8 195 yX8_power, Cond.static yX8_power, Cond.code yX8_power cX8_power 6 (some .long), Cond.methodLink RX8 199 yX8_part, Cond.static yX8_part, Cond.code yX8_part cX8_part 7 (some .long), Cond.methodLink RX8 184 yX8_gcd, Cond.static yX8_gcd, Cond.code yX8_gcd cX8_gcd 10 (some .long)]
def wsX8_loss : List Cond := .code yX8_loss cX8_loss 6 (some .int) :: ((wsX8_loss_r1 ++ wsX8_loss_r2) ++ wsX80)
def wsX8_rowsOf : List Cond := .code yX8_rowsOf cX8_rowsOf 4 (some .int) :: ([])
def wsX8_rowOf : List Cond := .code yX8_rowOf cX8_rowOf 4 none :: ([.fieldLink RX8 22 "BellTheCatModel" "many" "[I", .fieldLink RX8 44 "BellTheCatModel" "row" "[I"] ++ wsX80)
def wsX8_mayGo : List Cond := .code yX8_mayGo cX8_mayGo 5 (some .boolean) :: ([.fieldLink RX8 22 "BellTheCatModel" "many" "[I", .fieldLink RX8 25 "BellTheCatModel" "s" "[I", .fieldLink RX8 44 "BellTheCatModel" "row" "[I", .methodLink RX8 203 yX8_ones, .static yX8_ones, .initialized RX8, .code yX8_ones cX8_ones 3 (some .int), .methodLink RX8 146 yX8_isLiving, .instanceMethod yX8_isLiving, .selects RX8 yX8_isLiving yX8_isLiving, .code yX8_isLiving cX8_isLiving 2 (some .boolean)] ++ wsX80)
def wsX8_findsBest_r1 : List Cond := [Cond.constantLong RX8 206 (-1), Cond.fieldLink RX8 22 "BellTheCatModel" "many" "[I", Cond.fieldLink RX8 44 "BellTheCatModel" "row" "[I", Cond.fieldLink RX8 47 "BellTheCatModel" "bestRow" "[I", Cond.methodLink RX8 208 yX8_rowsOf, Cond.static yX8_rowsOf, Cond.initialized RX8, Cond.code yX8_rowsOf cX8_rowsOf 4 (some .int), Cond.methodLink RX8 211 yX8_rowOf, Cond.instanceMethod yX8_rowOf, Cond.selects RX8 yX8_rowOf yX8_rowOf, Cond.code yX8_rowOf cX8_rowOf 4 none, Cond.methodLink RX8 214 yX8_mayGo, Cond.instanceMethod yX8_mayGo, Cond.selects RX8 yX8_mayGo yX8_mayGo, Cond.code yX8_mayGo cX8_mayGo 5 (some .boolean), Cond.fieldLink RX8 25 "BellTheCatModel" "s" "[I", Cond.methodLink RX8 203 yX8_ones, Cond.static yX8_ones, Cond.code yX8_ones cX8_ones 3 (some .int), Cond.methodLink RX8 146 yX8_isLiving, Cond.instanceMethod yX8_isLiving, Cond.selects RX8 yX8_isLiving yX8_isLiving, Cond.code yX8_isLiving cX8_isLiving 2 (some .boolean)]
def wsX8_findsBest_r2 : List Cond := [Cond.methodLink RX8 159 yX8_dangerTo, Cond.instanceMethod yX8_dangerTo, Cond.selects RX8 yX8_dangerTo yX8_dangerTo, Cond.code yX8_dangerTo cX8_dangerTo 3 (some .int), Cond.fieldLink RX8 13 "BellTheCatModel" "mice" "[I", Cond.fieldLink RX8 16 "BellTheCatModel" "noise" "[I", Cond.methodLink RX8 155 yX8_dangerBy, Cond.static yX8_dangerBy, Cond.code yX8_dangerBy cX8_dangerBy 4 (some .int)]
def wsX8_findsBest : List Cond := .code yX8_findsBest cX8_findsBest 7 (some .long) :: ((wsX8_findsBest_r1 ++ wsX8_findsBest_r2) ++ wsX80)
def wsX8_best_r1 : List Cond := [Cond.fieldLink RX8 50 "BellTheCatModel" "thrown" "I", Cond.fieldLink RX8 22 "BellTheCatModel" "many" "[I", Cond.constantLong RX8 175 (10), Cond.methodLink RX8 188 yX8_isPart, Cond.static yX8_isPart, Cond.initialized RX8, Cond.code yX8_isPart cX8_isPart 1 (some .boolean), Cond.methodLink RX8 217 yX8_findsBest, Cond.instanceMethod yX8_findsBest, Cond.selects RX8 yX8_findsBest yX8_findsBest, Cond.code yX8_findsBest cX8_findsBest 7 (some .long), Cond.constantLong RX8 206 (-1), Cond.fieldLink RX8 44 "BellTheCatModel" "row" "[I", Cond.fieldLink RX8 47 "BellTheCatModel" "bestRow" "[I", Cond.methodLink RX8 208 yX8_rowsOf, Cond.static yX8_rowsOf, Cond.code yX8_rowsOf cX8_rowsOf 4 (some .int), Cond.methodLink RX8 211 yX8_rowOf, Cond.instanceMethod yX8_rowOf, Cond.selects RX8 yX8_rowOf yX8_rowOf, Cond.code yX8_rowOf cX8_rowOf 4 none, Cond.methodLink RX8 214 yX8_mayGo, Cond.instanceMethod yX8_mayGo, Cond.selects RX8 yX8_mayGo yX8_mayGo]
def wsX8_best_r2 : List Cond := [Cond.code yX8_mayGo cX8_mayGo 5 (some .boolean), Cond.fieldLink RX8 25 "BellTheCatModel" "s" "[I", Cond.methodLink RX8 203 yX8_ones, Cond.static yX8_ones, Cond.code yX8_ones cX8_ones 3 (some .int), Cond.methodLink RX8 146 yX8_isLiving, Cond.instanceMethod yX8_isLiving, Cond.selects RX8 yX8_isLiving yX8_isLiving, Cond.code yX8_isLiving cX8_isLiving 2 (some .boolean), Cond.methodLink RX8 159 yX8_dangerTo, Cond.instanceMethod yX8_dangerTo, Cond.selects RX8 yX8_dangerTo yX8_dangerTo, Cond.code yX8_dangerTo cX8_dangerTo 3 (some .int), Cond.fieldLink RX8 13 "BellTheCatModel" "mice" "[I", Cond.fieldLink RX8 16 "BellTheCatModel" "noise" "[I", Cond.methodLink RX8 155 yX8_dangerBy, Cond.static yX8_dangerBy, Cond.code yX8_dangerBy cX8_dangerBy 4 (some .int), Cond.methodLink RX8 195 yX8_power, Cond.static yX8_power, Cond.code yX8_power cX8_power 6 (some .long), Cond.methodLink RX8 199 yX8_part, Cond.static yX8_part, Cond.code yX8_part cX8_part 7 (some .long)]
def wsX8_best_r3 : List Cond := [Cond.methodLink RX8 184 yX8_gcd, Cond.static yX8_gcd, Cond.code yX8_gcd cX8_gcd 10 (some .long)]
def wsX8_best : List Cond := .code yX8_best cX8_best 4 (some .int) :: ((wsX8_best_r1 ++ (wsX8_best_r2 ++ wsX8_best_r3)) ++ wsX80)
def wsX8_bestOf_r1 : List Cond := [Cond.fieldLink RX8 50 "BellTheCatModel" "thrown" "I", Cond.fieldLink RX8 47 "BellTheCatModel" "bestRow" "[I", Cond.methodLink RX8 152 yX8_isStep, Cond.instanceMethod yX8_isStep, Cond.selects RX8 yX8_isStep yX8_isStep, Cond.initialized RX8, Cond.code yX8_isStep cX8_isStep 2 (some .boolean), Cond.fieldLink RX8 22 "BellTheCatModel" "many" "[I", Cond.methodLink RX8 54 yX8_in, Cond.static yX8_in, Cond.code yX8_in cX8_in 3 (some .boolean), Cond.methodLink RX8 217 yX8_findsBest, Cond.instanceMethod yX8_findsBest, Cond.selects RX8 yX8_findsBest yX8_findsBest, Cond.code yX8_findsBest cX8_findsBest 7 (some .long), Cond.constantLong RX8 206 (-1), Cond.fieldLink RX8 44 "BellTheCatModel" "row" "[I", Cond.methodLink RX8 208 yX8_rowsOf, Cond.static yX8_rowsOf, Cond.code yX8_rowsOf cX8_rowsOf 4 (some .int), Cond.methodLink RX8 211 yX8_rowOf, Cond.instanceMethod yX8_rowOf, Cond.selects RX8 yX8_rowOf yX8_rowOf, Cond.code yX8_rowOf cX8_rowOf 4 none]
def wsX8_bestOf_r2 : List Cond := [Cond.methodLink RX8 214 yX8_mayGo, Cond.instanceMethod yX8_mayGo, Cond.selects RX8 yX8_mayGo yX8_mayGo, Cond.code yX8_mayGo cX8_mayGo 5 (some .boolean), Cond.fieldLink RX8 25 "BellTheCatModel" "s" "[I", Cond.methodLink RX8 203 yX8_ones, Cond.static yX8_ones, Cond.code yX8_ones cX8_ones 3 (some .int), Cond.methodLink RX8 146 yX8_isLiving, Cond.instanceMethod yX8_isLiving, Cond.selects RX8 yX8_isLiving yX8_isLiving, Cond.code yX8_isLiving cX8_isLiving 2 (some .boolean), Cond.methodLink RX8 159 yX8_dangerTo, Cond.instanceMethod yX8_dangerTo, Cond.selects RX8 yX8_dangerTo yX8_dangerTo, Cond.code yX8_dangerTo cX8_dangerTo 3 (some .int), Cond.fieldLink RX8 13 "BellTheCatModel" "mice" "[I", Cond.fieldLink RX8 16 "BellTheCatModel" "noise" "[I", Cond.methodLink RX8 155 yX8_dangerBy, Cond.static yX8_dangerBy, Cond.code yX8_dangerBy cX8_dangerBy 4 (some .int)]
def wsX8_bestOf : List Cond := .code yX8_bestOf cX8_bestOf 2 (some .int) :: ((wsX8_bestOf_r1 ++ wsX8_bestOf_r2) ++ wsX80)
def wsX8_tickets : List Cond := .code yX8_tickets cX8_tickets 3 (some .int) :: ([.fieldLink RX8 22 "BellTheCatModel" "many" "[I", .fieldLink RX8 13 "BellTheCatModel" "mice" "[I", .methodLink RX8 146 yX8_isLiving, .instanceMethod yX8_isLiving, .selects RX8 yX8_isLiving yX8_isLiving, .initialized RX8, .code yX8_isLiving cX8_isLiving 2 (some .boolean), .fieldLink RX8 25 "BellTheCatModel" "s" "[I"] ++ wsX80)
def wsX8_drawn_r1 : List Cond := [Cond.fieldLink RX8 50 "BellTheCatModel" "thrown" "I", Cond.fieldLink RX8 13 "BellTheCatModel" "mice" "[I", Cond.methodLink RX8 143 yX8_isMouse, Cond.instanceMethod yX8_isMouse, Cond.selects RX8 yX8_isMouse yX8_isMouse, Cond.initialized RX8, Cond.code yX8_isMouse cX8_isMouse 2 (some .boolean), Cond.fieldLink RX8 22 "BellTheCatModel" "many" "[I", Cond.methodLink RX8 54 yX8_in, Cond.static yX8_in, Cond.code yX8_in cX8_in 3 (some .boolean), Cond.methodLink RX8 188 yX8_isPart, Cond.static yX8_isPart, Cond.code yX8_isPart cX8_isPart 1 (some .boolean), Cond.methodLink RX8 221 yX8_tickets, Cond.instanceMethod yX8_tickets, Cond.selects RX8 yX8_tickets yX8_tickets, Cond.code yX8_tickets cX8_tickets 3 (some .int), Cond.methodLink RX8 146 yX8_isLiving, Cond.instanceMethod yX8_isLiving, Cond.selects RX8 yX8_isLiving yX8_isLiving, Cond.code yX8_isLiving cX8_isLiving 2 (some .boolean), Cond.fieldLink RX8 25 "BellTheCatModel" "s" "[I", Cond.methodLink RX8 199 yX8_part]
def wsX8_drawn_r2 : List Cond := [Cond.static yX8_part, Cond.code yX8_part cX8_part 7 (some .long), Cond.methodLink RX8 184 yX8_gcd, Cond.static yX8_gcd, Cond.code yX8_gcd cX8_gcd 10 (some .long)]
def wsX8_drawn : List Cond := .code yX8_drawn cX8_drawn 3 (some .int) :: ((wsX8_drawn_r1 ++ wsX8_drawn_r2) ++ wsX80)
def wsX8_caughtAlone : List Cond := .code yX8_caughtAlone cX8_caughtAlone 5 (some .long) :: ([.fieldLink RX8 22 "BellTheCatModel" "many" "[I", .constantLong RX8 175 (10), .methodLink RX8 159 yX8_dangerTo, .instanceMethod yX8_dangerTo, .selects RX8 yX8_dangerTo yX8_dangerTo, .initialized RX8, .code yX8_dangerTo cX8_dangerTo 3 (some .int), .fieldLink RX8 13 "BellTheCatModel" "mice" "[I", .fieldLink RX8 16 "BellTheCatModel" "noise" "[I", .methodLink RX8 155 yX8_dangerBy, .static yX8_dangerBy, .code yX8_dangerBy cX8_dangerBy 4 (some .int), .methodLink RX8 195 yX8_power, .static yX8_power, .code yX8_power cX8_power 6 (some .long)] ++ wsX80)
def wsX8_alone_r1 : List Cond := [Cond.fieldLink RX8 50 "BellTheCatModel" "thrown" "I", Cond.constantLong RX8 175 (10), Cond.fieldLink RX8 22 "BellTheCatModel" "many" "[I", Cond.methodLink RX8 143 yX8_isMouse, Cond.instanceMethod yX8_isMouse, Cond.selects RX8 yX8_isMouse yX8_isMouse, Cond.initialized RX8, Cond.code yX8_isMouse cX8_isMouse 2 (some .boolean), Cond.methodLink RX8 54 yX8_in, Cond.static yX8_in, Cond.code yX8_in cX8_in 3 (some .boolean), Cond.methodLink RX8 188 yX8_isPart, Cond.static yX8_isPart, Cond.code yX8_isPart cX8_isPart 1 (some .boolean), Cond.methodLink RX8 224 yX8_caughtAlone, Cond.instanceMethod yX8_caughtAlone, Cond.selects RX8 yX8_caughtAlone yX8_caughtAlone, Cond.code yX8_caughtAlone cX8_caughtAlone 5 (some .long), Cond.methodLink RX8 159 yX8_dangerTo, Cond.instanceMethod yX8_dangerTo, Cond.selects RX8 yX8_dangerTo yX8_dangerTo, Cond.code yX8_dangerTo cX8_dangerTo 3 (some .int), Cond.fieldLink RX8 13 "BellTheCatModel" "mice" "[I", Cond.fieldLink RX8 16 "BellTheCatModel" "noise" "[I"]
def wsX8_alone_r2 : List Cond := [Cond.methodLink RX8 155 yX8_dangerBy, Cond.static yX8_dangerBy, Cond.code yX8_dangerBy cX8_dangerBy 4 (some .int), Cond.methodLink RX8 195 yX8_power, Cond.static yX8_power, Cond.code yX8_power cX8_power 6 (some .long), Cond.methodLink RX8 199 yX8_part, Cond.static yX8_part, Cond.code yX8_part cX8_part 7 (some .long), Cond.methodLink RX8 184 yX8_gcd, Cond.static yX8_gcd, Cond.code yX8_gcd cX8_gcd 10 (some .long)]
def wsX8_alone : List Cond := .code yX8_alone cX8_alone 3 (some .int) :: ((wsX8_alone_r1 ++ wsX8_alone_r2) ++ wsX80)
def wsX8_dreadOf : List Cond := .code yX8_dreadOf cX8_dreadOf 2 (some .long) :: ([.fieldLink RX8 13 "BellTheCatModel" "mice" "[I", .methodLink RX8 224 yX8_caughtAlone, .instanceMethod yX8_caughtAlone, .selects RX8 yX8_caughtAlone yX8_caughtAlone, .initialized RX8, .code yX8_caughtAlone cX8_caughtAlone 5 (some .long), .fieldLink RX8 22 "BellTheCatModel" "many" "[I", .constantLong RX8 175 (10), .methodLink RX8 159 yX8_dangerTo, .instanceMethod yX8_dangerTo, .selects RX8 yX8_dangerTo yX8_dangerTo, .code yX8_dangerTo cX8_dangerTo 3 (some .int), .fieldLink RX8 16 "BellTheCatModel" "noise" "[I", .methodLink RX8 155 yX8_dangerBy, .static yX8_dangerBy, .code yX8_dangerBy cX8_dangerBy 4 (some .int), .methodLink RX8 195 yX8_power, .static yX8_power, .code yX8_power cX8_power 6 (some .long)] ++ wsX80)
def wsX8_dread_r1 : List Cond := [Cond.fieldLink RX8 50 "BellTheCatModel" "thrown" "I", Cond.constantLong RX8 175 (10), Cond.fieldLink RX8 22 "BellTheCatModel" "many" "[I", Cond.methodLink RX8 143 yX8_isMouse, Cond.instanceMethod yX8_isMouse, Cond.selects RX8 yX8_isMouse yX8_isMouse, Cond.initialized RX8, Cond.code yX8_isMouse cX8_isMouse 2 (some .boolean), Cond.methodLink RX8 54 yX8_in, Cond.static yX8_in, Cond.code yX8_in cX8_in 3 (some .boolean), Cond.methodLink RX8 188 yX8_isPart, Cond.static yX8_isPart, Cond.code yX8_isPart cX8_isPart 1 (some .boolean), Cond.methodLink RX8 227 yX8_dreadOf, Cond.instanceMethod yX8_dreadOf, Cond.selects RX8 yX8_dreadOf yX8_dreadOf, Cond.code yX8_dreadOf cX8_dreadOf 2 (some .long), Cond.fieldLink RX8 13 "BellTheCatModel" "mice" "[I", Cond.methodLink RX8 224 yX8_caughtAlone, Cond.instanceMethod yX8_caughtAlone, Cond.selects RX8 yX8_caughtAlone yX8_caughtAlone, Cond.code yX8_caughtAlone cX8_caughtAlone 5 (some .long), Cond.methodLink RX8 159 yX8_dangerTo]
def wsX8_dread_r2 : List Cond := [Cond.instanceMethod yX8_dangerTo, Cond.selects RX8 yX8_dangerTo yX8_dangerTo, Cond.code yX8_dangerTo cX8_dangerTo 3 (some .int), Cond.fieldLink RX8 16 "BellTheCatModel" "noise" "[I", Cond.methodLink RX8 155 yX8_dangerBy, Cond.static yX8_dangerBy, Cond.code yX8_dangerBy cX8_dangerBy 4 (some .int), Cond.methodLink RX8 195 yX8_power, Cond.static yX8_power, Cond.code yX8_power cX8_power 6 (some .long), Cond.methodLink RX8 199 yX8_part, Cond.static yX8_part, Cond.code yX8_part cX8_part 7 (some .long), Cond.methodLink RX8 184 yX8_gcd, Cond.static yX8_gcd, Cond.code yX8_gcd cX8_gcd 10 (some .long)]
def wsX8_dread : List Cond := .code yX8_dread cX8_dread 3 (some .int) :: ((wsX8_dread_r1 ++ wsX8_dread_r2) ++ wsX80)
def wsX8_hires_r1 : List Cond := [Cond.fieldLink RX8 50 "BellTheCatModel" "thrown" "I", Cond.fieldLink RX8 22 "BellTheCatModel" "many" "[I", Cond.methodLink RX8 143 yX8_isMouse, Cond.instanceMethod yX8_isMouse, Cond.selects RX8 yX8_isMouse yX8_isMouse, Cond.initialized RX8, Cond.code yX8_isMouse cX8_isMouse 2 (some .boolean), Cond.methodLink RX8 54 yX8_in, Cond.static yX8_in, Cond.code yX8_in cX8_in 3 (some .boolean), Cond.methodLink RX8 146 yX8_isLiving, Cond.instanceMethod yX8_isLiving, Cond.selects RX8 yX8_isLiving yX8_isLiving, Cond.code yX8_isLiving cX8_isLiving 2 (some .boolean), Cond.fieldLink RX8 25 "BellTheCatModel" "s" "[I", Cond.methodLink RX8 227 yX8_dreadOf, Cond.instanceMethod yX8_dreadOf, Cond.selects RX8 yX8_dreadOf yX8_dreadOf, Cond.code yX8_dreadOf cX8_dreadOf 2 (some .long), Cond.fieldLink RX8 13 "BellTheCatModel" "mice" "[I", Cond.methodLink RX8 224 yX8_caughtAlone, Cond.instanceMethod yX8_caughtAlone, Cond.selects RX8 yX8_caughtAlone yX8_caughtAlone, Cond.code yX8_caughtAlone cX8_caughtAlone 5 (some .long)]
def wsX8_hires_r2 : List Cond := [Cond.constantLong RX8 175 (10), Cond.methodLink RX8 159 yX8_dangerTo, Cond.instanceMethod yX8_dangerTo, Cond.selects RX8 yX8_dangerTo yX8_dangerTo, Cond.code yX8_dangerTo cX8_dangerTo 3 (some .int), Cond.fieldLink RX8 16 "BellTheCatModel" "noise" "[I", Cond.methodLink RX8 155 yX8_dangerBy, Cond.static yX8_dangerBy, Cond.code yX8_dangerBy cX8_dangerBy 4 (some .int), Cond.methodLink RX8 195 yX8_power, Cond.static yX8_power, Cond.code yX8_power cX8_power 6 (some .long)]
def wsX8_hires : List Cond := .code yX8_hires cX8_hires 4 (some .int) :: ((wsX8_hires_r1 ++ wsX8_hires_r2) ++ wsX80)
def wsX8_isAtRest_r1 : List Cond := [Cond.constantLong RX8 175 (10), Cond.fieldLink RX8 22 "BellTheCatModel" "many" "[I", Cond.methodLink RX8 195 yX8_power, Cond.static yX8_power, Cond.initialized RX8, Cond.code yX8_power cX8_power 6 (some .long), Cond.methodLink RX8 146 yX8_isLiving, Cond.instanceMethod yX8_isLiving, Cond.selects RX8 yX8_isLiving yX8_isLiving, Cond.code yX8_isLiving cX8_isLiving 2 (some .boolean), Cond.fieldLink RX8 25 "BellTheCatModel" "s" "[I", Cond.methodLink RX8 227 yX8_dreadOf, Cond.instanceMethod yX8_dreadOf, Cond.selects RX8 yX8_dreadOf yX8_dreadOf, Cond.code yX8_dreadOf cX8_dreadOf 2 (some .long), Cond.fieldLink RX8 13 "BellTheCatModel" "mice" "[I", Cond.methodLink RX8 224 yX8_caughtAlone, Cond.instanceMethod yX8_caughtAlone, Cond.selects RX8 yX8_caughtAlone yX8_caughtAlone, Cond.code yX8_caughtAlone cX8_caughtAlone 5 (some .long), Cond.methodLink RX8 159 yX8_dangerTo, Cond.instanceMethod yX8_dangerTo, Cond.selects RX8 yX8_dangerTo yX8_dangerTo, Cond.code yX8_dangerTo cX8_dangerTo 3 (some .int)]
def wsX8_isAtRest_r2 : List Cond := [Cond.fieldLink RX8 16 "BellTheCatModel" "noise" "[I", Cond.methodLink RX8 155 yX8_dangerBy, Cond.static yX8_dangerBy, Cond.code yX8_dangerBy cX8_dangerBy 4 (some .int), Cond.methodLink RX8 203 yX8_ones, Cond.static yX8_ones, Cond.code yX8_ones cX8_ones 3 (some .int)]
def wsX8_isAtRest : List Cond := .code yX8_isAtRest cX8_isAtRest 13 (some .boolean) :: ((wsX8_isAtRest_r1 ++ wsX8_isAtRest_r2) ++ wsX80)
def wsX8_leastAtRest_r1 : List Cond := [Cond.fieldLink RX8 22 "BellTheCatModel" "many" "[I", Cond.fieldLink RX8 25 "BellTheCatModel" "s" "[I", Cond.methodLink RX8 230 yX8_isAtRest, Cond.instanceMethod yX8_isAtRest, Cond.selects RX8 yX8_isAtRest yX8_isAtRest, Cond.initialized RX8, Cond.code yX8_isAtRest cX8_isAtRest 13 (some .boolean), Cond.constantLong RX8 175 (10), Cond.methodLink RX8 195 yX8_power, Cond.static yX8_power, Cond.code yX8_power cX8_power 6 (some .long), Cond.methodLink RX8 146 yX8_isLiving, Cond.instanceMethod yX8_isLiving, Cond.selects RX8 yX8_isLiving yX8_isLiving, Cond.code yX8_isLiving cX8_isLiving 2 (some .boolean), Cond.methodLink RX8 227 yX8_dreadOf, Cond.instanceMethod yX8_dreadOf, Cond.selects RX8 yX8_dreadOf yX8_dreadOf, Cond.code yX8_dreadOf cX8_dreadOf 2 (some .long), Cond.fieldLink RX8 13 "BellTheCatModel" "mice" "[I", Cond.methodLink RX8 224 yX8_caughtAlone, Cond.instanceMethod yX8_caughtAlone, Cond.selects RX8 yX8_caughtAlone yX8_caughtAlone, Cond.code yX8_caughtAlone cX8_caughtAlone 5 (some .long)]
def wsX8_leastAtRest_r2 : List Cond := [Cond.methodLink RX8 159 yX8_dangerTo, Cond.instanceMethod yX8_dangerTo, Cond.selects RX8 yX8_dangerTo yX8_dangerTo, Cond.code yX8_dangerTo cX8_dangerTo 3 (some .int), Cond.fieldLink RX8 16 "BellTheCatModel" "noise" "[I", Cond.methodLink RX8 155 yX8_dangerBy, Cond.static yX8_dangerBy, Cond.code yX8_dangerBy cX8_dangerBy 4 (some .int), Cond.methodLink RX8 203 yX8_ones, Cond.static yX8_ones, Cond.code yX8_ones cX8_ones 3 (some .int)]
def wsX8_leastAtRest : List Cond := .code yX8_leastAtRest cX8_leastAtRest 4 (some .int) :: ((wsX8_leastAtRest_r1 ++ wsX8_leastAtRest_r2) ++ wsX80)
def wsX8_rests_r1 : List Cond := [Cond.fieldLink RX8 50 "BellTheCatModel" "thrown" "I", Cond.fieldLink RX8 22 "BellTheCatModel" "many" "[I", Cond.fieldLink RX8 25 "BellTheCatModel" "s" "[I", Cond.methodLink RX8 54 yX8_in, Cond.static yX8_in, Cond.initialized RX8, Cond.code yX8_in cX8_in 3 (some .boolean), Cond.methodLink RX8 234 yX8_leastAtRest, Cond.instanceMethod yX8_leastAtRest, Cond.selects RX8 yX8_leastAtRest yX8_leastAtRest, Cond.code yX8_leastAtRest cX8_leastAtRest 4 (some .int), Cond.methodLink RX8 230 yX8_isAtRest, Cond.instanceMethod yX8_isAtRest, Cond.selects RX8 yX8_isAtRest yX8_isAtRest, Cond.code yX8_isAtRest cX8_isAtRest 13 (some .boolean), Cond.constantLong RX8 175 (10), Cond.methodLink RX8 195 yX8_power, Cond.static yX8_power, Cond.code yX8_power cX8_power 6 (some .long), Cond.methodLink RX8 146 yX8_isLiving, Cond.instanceMethod yX8_isLiving, Cond.selects RX8 yX8_isLiving yX8_isLiving, Cond.code yX8_isLiving cX8_isLiving 2 (some .boolean), Cond.methodLink RX8 227 yX8_dreadOf]
def wsX8_rests_r2 : List Cond := [Cond.instanceMethod yX8_dreadOf, Cond.selects RX8 yX8_dreadOf yX8_dreadOf, Cond.code yX8_dreadOf cX8_dreadOf 2 (some .long), Cond.fieldLink RX8 13 "BellTheCatModel" "mice" "[I", Cond.methodLink RX8 224 yX8_caughtAlone, Cond.instanceMethod yX8_caughtAlone, Cond.selects RX8 yX8_caughtAlone yX8_caughtAlone, Cond.code yX8_caughtAlone cX8_caughtAlone 5 (some .long), Cond.methodLink RX8 159 yX8_dangerTo, Cond.instanceMethod yX8_dangerTo, Cond.selects RX8 yX8_dangerTo yX8_dangerTo, Cond.code yX8_dangerTo cX8_dangerTo 3 (some .int), Cond.fieldLink RX8 16 "BellTheCatModel" "noise" "[I", Cond.methodLink RX8 155 yX8_dangerBy, Cond.static yX8_dangerBy, Cond.code yX8_dangerBy cX8_dangerBy 4 (some .int), Cond.methodLink RX8 203 yX8_ones, Cond.static yX8_ones, Cond.code yX8_ones cX8_ones 3 (some .int)]
def wsX8_rests : List Cond := .code yX8_rests cX8_rests 5 (some .int) :: ((wsX8_rests_r1 ++ wsX8_rests_r2) ++ wsX80)
def wsX8_fund_r1 : List Cond := [Cond.fieldLink RX8 50 "BellTheCatModel" "thrown" "I", Cond.methodLink RX8 234 yX8_leastAtRest, Cond.instanceMethod yX8_leastAtRest, Cond.selects RX8 yX8_leastAtRest yX8_leastAtRest, Cond.initialized RX8, Cond.code yX8_leastAtRest cX8_leastAtRest 4 (some .int), Cond.fieldLink RX8 22 "BellTheCatModel" "many" "[I", Cond.fieldLink RX8 25 "BellTheCatModel" "s" "[I", Cond.methodLink RX8 230 yX8_isAtRest, Cond.instanceMethod yX8_isAtRest, Cond.selects RX8 yX8_isAtRest yX8_isAtRest, Cond.code yX8_isAtRest cX8_isAtRest 13 (some .boolean), Cond.constantLong RX8 175 (10), Cond.methodLink RX8 195 yX8_power, Cond.static yX8_power, Cond.code yX8_power cX8_power 6 (some .long), Cond.methodLink RX8 146 yX8_isLiving, Cond.instanceMethod yX8_isLiving, Cond.selects RX8 yX8_isLiving yX8_isLiving, Cond.code yX8_isLiving cX8_isLiving 2 (some .boolean), Cond.methodLink RX8 227 yX8_dreadOf, Cond.instanceMethod yX8_dreadOf, Cond.selects RX8 yX8_dreadOf yX8_dreadOf, Cond.code yX8_dreadOf cX8_dreadOf 2 (some .long)]
def wsX8_fund_r2 : List Cond := [Cond.fieldLink RX8 13 "BellTheCatModel" "mice" "[I", Cond.methodLink RX8 224 yX8_caughtAlone, Cond.instanceMethod yX8_caughtAlone, Cond.selects RX8 yX8_caughtAlone yX8_caughtAlone, Cond.code yX8_caughtAlone cX8_caughtAlone 5 (some .long), Cond.methodLink RX8 159 yX8_dangerTo, Cond.instanceMethod yX8_dangerTo, Cond.selects RX8 yX8_dangerTo yX8_dangerTo, Cond.code yX8_dangerTo cX8_dangerTo 3 (some .int), Cond.fieldLink RX8 16 "BellTheCatModel" "noise" "[I", Cond.methodLink RX8 155 yX8_dangerBy, Cond.static yX8_dangerBy, Cond.code yX8_dangerBy cX8_dangerBy 4 (some .int), Cond.methodLink RX8 203 yX8_ones, Cond.static yX8_ones, Cond.code yX8_ones cX8_ones 3 (some .int)]
def wsX8_fund : List Cond := .code yX8_fund cX8_fund 2 (some .int) :: ((wsX8_fund_r1 ++ wsX8_fund_r2) ++ wsX80)
def wsX8_worthOf : List Cond := .code yX8_worthOf cX8_worthOf 2 (some .int) :: ([.fieldLink RX8 22 "BellTheCatModel" "many" "[I", .fieldLink RX8 19 "BellTheCatModel" "rats" "[I"] ++ wsX80)
def wsX8_rats : List Cond := .code yX8_rats cX8_rats 5 (some .int) :: ([.fieldLink RX8 50 "BellTheCatModel" "thrown" "I", .fieldLink RX8 22 "BellTheCatModel" "many" "[I", .methodLink RX8 54 yX8_in, .static yX8_in, .initialized RX8, .code yX8_in cX8_in 3 (some .boolean), .methodLink RX8 238 yX8_worthOf, .instanceMethod yX8_worthOf, .selects RX8 yX8_worthOf yX8_worthOf, .code yX8_worthOf cX8_worthOf 2 (some .int), .fieldLink RX8 19 "BellTheCatModel" "rats" "[I"] ++ wsX80)
def wsX8_choose : List Cond := .code yX8_choose cX8_choose 5 (some .long) :: ([])
def wsX8_shoe_r1 : List Cond := [Cond.fieldLink RX8 50 "BellTheCatModel" "thrown" "I", Cond.constantLong RX8 241 (-2), Cond.constantLong RX8 243 (-3), Cond.fieldLink RX8 13 "BellTheCatModel" "mice" "[I", Cond.fieldLink RX8 16 "BellTheCatModel" "noise" "[I", Cond.constantLong RX8 175 (10), Cond.methodLink RX8 143 yX8_isMouse, Cond.instanceMethod yX8_isMouse, Cond.selects RX8 yX8_isMouse yX8_isMouse, Cond.initialized RX8, Cond.code yX8_isMouse cX8_isMouse 2 (some .boolean), Cond.fieldLink RX8 22 "BellTheCatModel" "many" "[I", Cond.methodLink RX8 54 yX8_in, Cond.static yX8_in, Cond.code yX8_in cX8_in 3 (some .boolean), Cond.methodLink RX8 152 yX8_isStep, Cond.instanceMethod yX8_isStep, Cond.selects RX8 yX8_isStep yX8_isStep, Cond.code yX8_isStep cX8_isStep 2 (some .boolean), Cond.methodLink RX8 188 yX8_isPart, Cond.static yX8_isPart, Cond.code yX8_isPart cX8_isPart 1 (some .boolean), Cond.methodLink RX8 155 yX8_dangerBy, Cond.static yX8_dangerBy]
def wsX8_shoe_r2 : List Cond := [Cond.code yX8_dangerBy cX8_dangerBy 4 (some .int), Cond.methodLink RX8 245 yX8_choose, Cond.static yX8_choose, Cond.code yX8_choose cX8_choose 5 (some .long), Cond.methodLink RX8 195 yX8_power, Cond.static yX8_power, Cond.code yX8_power cX8_power 6 (some .long), Cond.methodLink RX8 199 yX8_part, Cond.static yX8_part, Cond.code yX8_part cX8_part 7 (some .long), Cond.methodLink RX8 184 yX8_gcd, Cond.static yX8_gcd, Cond.code yX8_gcd cX8_gcd 10 (some .long)]
def wsX8_shoe : List Cond := .code yX8_shoe cX8_shoe 11 (some .long) :: ((wsX8_shoe_r1 ++ wsX8_shoe_r2) ++ wsX80)
def wsX8_callOff : List Cond := .code yX8_callOff cX8_callOff 13 (some .long) :: ([.fieldLink RX8 50 "BellTheCatModel" "thrown" "I", .constantLong RX8 243 (-3), .constantLong RX8 175 (10), .methodLink RX8 54 yX8_in, .static yX8_in, .initialized RX8, .code yX8_in cX8_in 3 (some .boolean), .methodLink RX8 188 yX8_isPart, .static yX8_isPart, .code yX8_isPart cX8_isPart 1 (some .boolean), .methodLink RX8 199 yX8_part, .static yX8_part, .code yX8_part cX8_part 7 (some .long), .methodLink RX8 184 yX8_gcd, .static yX8_gcd, .code yX8_gcd cX8_gcd 10 (some .long)] ++ wsX80)
def wsX8_seen : List Cond := .code yX8_seen cX8_seen 3 (some .int) :: ([.fieldLink RX8 50 "BellTheCatModel" "thrown" "I", .fieldLink RX8 140 "BellTheCatModel" "seenMany" "I", .fieldLink RX8 38 "BellTheCatModel" "seenStep" "[I", .fieldLink RX8 41 "BellTheCatModel" "seenMouse" "[I", .methodLink RX8 152 yX8_isStep, .instanceMethod yX8_isStep, .selects RX8 yX8_isStep yX8_isStep, .initialized RX8, .code yX8_isStep cX8_isStep 2 (some .boolean), .fieldLink RX8 22 "BellTheCatModel" "many" "[I", .methodLink RX8 54 yX8_in, .static yX8_in, .code yX8_in cX8_in 3 (some .boolean), .methodLink RX8 143 yX8_isMouse, .instanceMethod yX8_isMouse, .selects RX8 yX8_isMouse yX8_isMouse, .code yX8_isMouse cX8_isMouse 2 (some .boolean)] ++ wsX80)
def wsX8_forget : List Cond := .code yX8_forget cX8_forget 2 (some .int) :: ([.fieldLink RX8 50 "BellTheCatModel" "thrown" "I", .fieldLink RX8 140 "BellTheCatModel" "seenMany" "I"] ++ wsX80)
def wsX8_couldBe : List Cond := .code yX8_couldBe cX8_couldBe 4 (some .boolean) :: ([.fieldLink RX8 140 "BellTheCatModel" "seenMany" "I", .fieldLink RX8 44 "BellTheCatModel" "row" "[I", .fieldLink RX8 38 "BellTheCatModel" "seenStep" "[I", .fieldLink RX8 41 "BellTheCatModel" "seenMouse" "[I", .methodLink RX8 159 yX8_dangerTo, .instanceMethod yX8_dangerTo, .selects RX8 yX8_dangerTo yX8_dangerTo, .initialized RX8, .code yX8_dangerTo cX8_dangerTo 3 (some .int), .fieldLink RX8 13 "BellTheCatModel" "mice" "[I", .fieldLink RX8 16 "BellTheCatModel" "noise" "[I", .methodLink RX8 155 yX8_dangerBy, .static yX8_dangerBy, .code yX8_dangerBy cX8_dangerBy 4 (some .int)] ++ wsX80)
def wsX8_rowSet : List Cond := .code yX8_rowSet cX8_rowSet 3 (some .int) :: ([.fieldLink RX8 22 "BellTheCatModel" "many" "[I", .fieldLink RX8 44 "BellTheCatModel" "row" "[I"] ++ wsX80)
def wsX8_teams_r1 : List Cond := [Cond.fieldLink RX8 50 "BellTheCatModel" "thrown" "I", Cond.fieldLink RX8 22 "BellTheCatModel" "many" "[I", Cond.methodLink RX8 54 yX8_in, Cond.static yX8_in, Cond.initialized RX8, Cond.code yX8_in cX8_in 3 (some .boolean), Cond.methodLink RX8 208 yX8_rowsOf, Cond.static yX8_rowsOf, Cond.code yX8_rowsOf cX8_rowsOf 4 (some .int), Cond.methodLink RX8 211 yX8_rowOf, Cond.instanceMethod yX8_rowOf, Cond.selects RX8 yX8_rowOf yX8_rowOf, Cond.code yX8_rowOf cX8_rowOf 4 none, Cond.fieldLink RX8 44 "BellTheCatModel" "row" "[I", Cond.methodLink RX8 249 yX8_couldBe, Cond.instanceMethod yX8_couldBe, Cond.selects RX8 yX8_couldBe yX8_couldBe, Cond.code yX8_couldBe cX8_couldBe 4 (some .boolean), Cond.fieldLink RX8 140 "BellTheCatModel" "seenMany" "I", Cond.fieldLink RX8 38 "BellTheCatModel" "seenStep" "[I", Cond.fieldLink RX8 41 "BellTheCatModel" "seenMouse" "[I", Cond.methodLink RX8 159 yX8_dangerTo, Cond.instanceMethod yX8_dangerTo, Cond.selects RX8 yX8_dangerTo yX8_dangerTo]
def wsX8_teams_r2 : List Cond := [Cond.code yX8_dangerTo cX8_dangerTo 3 (some .int), Cond.fieldLink RX8 13 "BellTheCatModel" "mice" "[I", Cond.fieldLink RX8 16 "BellTheCatModel" "noise" "[I", Cond.methodLink RX8 155 yX8_dangerBy, Cond.static yX8_dangerBy, Cond.code yX8_dangerBy cX8_dangerBy 4 (some .int), Cond.methodLink RX8 252 yX8_rowSet, Cond.instanceMethod yX8_rowSet, Cond.selects RX8 yX8_rowSet yX8_rowSet, Cond.code yX8_rowSet cX8_rowSet 3 (some .int)]
def wsX8_teams : List Cond := .code yX8_teams cX8_teams 5 (some .int) :: ((wsX8_teams_r1 ++ wsX8_teams_r2) ++ wsX80)
def wsX8_teamOf_r1 : List Cond := [Cond.fieldLink RX8 50 "BellTheCatModel" "thrown" "I", Cond.fieldLink RX8 22 "BellTheCatModel" "many" "[I", Cond.fieldLink RX8 44 "BellTheCatModel" "row" "[I", Cond.methodLink RX8 152 yX8_isStep, Cond.instanceMethod yX8_isStep, Cond.selects RX8 yX8_isStep yX8_isStep, Cond.initialized RX8, Cond.code yX8_isStep cX8_isStep 2 (some .boolean), Cond.methodLink RX8 54 yX8_in, Cond.static yX8_in, Cond.code yX8_in cX8_in 3 (some .boolean), Cond.methodLink RX8 208 yX8_rowsOf, Cond.static yX8_rowsOf, Cond.code yX8_rowsOf cX8_rowsOf 4 (some .int), Cond.methodLink RX8 211 yX8_rowOf, Cond.instanceMethod yX8_rowOf, Cond.selects RX8 yX8_rowOf yX8_rowOf, Cond.code yX8_rowOf cX8_rowOf 4 none, Cond.methodLink RX8 249 yX8_couldBe, Cond.instanceMethod yX8_couldBe, Cond.selects RX8 yX8_couldBe yX8_couldBe, Cond.code yX8_couldBe cX8_couldBe 4 (some .boolean), Cond.fieldLink RX8 140 "BellTheCatModel" "seenMany" "I", Cond.fieldLink RX8 38 "BellTheCatModel" "seenStep" "[I"]
def wsX8_teamOf_r2 : List Cond := [Cond.fieldLink RX8 41 "BellTheCatModel" "seenMouse" "[I", Cond.methodLink RX8 159 yX8_dangerTo, Cond.instanceMethod yX8_dangerTo, Cond.selects RX8 yX8_dangerTo yX8_dangerTo, Cond.code yX8_dangerTo cX8_dangerTo 3 (some .int), Cond.fieldLink RX8 13 "BellTheCatModel" "mice" "[I", Cond.fieldLink RX8 16 "BellTheCatModel" "noise" "[I", Cond.methodLink RX8 155 yX8_dangerBy, Cond.static yX8_dangerBy, Cond.code yX8_dangerBy cX8_dangerBy 4 (some .int)]
def wsX8_teamOf : List Cond := .code yX8_teamOf cX8_teamOf 3 (some .int) :: ((wsX8_teamOf_r1 ++ wsX8_teamOf_r2) ++ wsX80)
def wsX8_count : List Cond := .code yX8_count cX8_count 2 (some .int) :: ([.fieldLink RX8 50 "BellTheCatModel" "thrown" "I", .fieldLink RX8 22 "BellTheCatModel" "many" "[I", .fieldLink RX8 25 "BellTheCatModel" "s" "[I", .fieldLink RX8 140 "BellTheCatModel" "seenMany" "I", .fieldLink RX8 137 "BellTheCatModel" "undos" "I", .fieldLink RX8 58 "BellTheCatModel" "typed" "I", .methodLink RX8 54 yX8_in, .static yX8_in, .initialized RX8, .code yX8_in cX8_in 3 (some .boolean), .methodLink RX8 166 yX8_done, .instanceMethod yX8_done, .selects RX8 yX8_done yX8_done, .code yX8_done cX8_done 3 (some .int)] ++ wsX80)
def wsJ9_max_7cf53 : List Cond := .code yJ9_max_7cf53 cJ9_max_7cf53 2 (some .int) :: ([])
def wsJ9_max_f86c9 : List Cond := .code yJ9_max_f86c9 cJ9_max_f86c9 4 (some .long) :: ([])
def wsJ9_min_7cf53 : List Cond := .code yJ9_min_7cf53 cJ9_min_7cf53 2 (some .int) :: ([])
theorem inJx145de : ∀ w ∈ wsJx145de0, w ∈ lw_tbl := by decide +kernel
theorem inJx9f9b0 : ∀ w ∈ wsJx9f9b00, w ∈ lw_tbl := by decide +kernel
theorem inJxb160c : ∀ w ∈ wsJxb160c0, w ∈ lw_tbl := by decide +kernel
theorem inJxfd54e : ∀ w ∈ wsJxfd54e0, w ∈ lw_tbl := by decide +kernel
theorem inJx3cf43 : ∀ w ∈ wsJx3cf430, w ∈ lw_tbl := by decide +kernel
set_option maxRecDepth 20000 in
theorem ggX0_apply_X0_takes : GoodIn wsX0_apply wsX0_takes := goodIn_r _ [8, 9, 2, 10, 30, 31, 32, 33, 34, 35, 36, 37, 38, 39, 40, 41] (by decide +kernel) (by decide +kernel)
set_option maxRecDepth 20000 in
theorem gX0_apply_X0_takes : GoodIn wsX0_apply (wsV RX0 49 RX0 yX0_takes wsX0_takes) := goodIn_app (goodIn_of _ (by decide +kernel)) ggX0_apply_X0_takes
set_option maxRecDepth 20000 in
theorem ggX0_apply_X0_addRat : GoodIn wsX0_apply wsX0_addRat := goodIn_r _ [14, 10, 15, 16, 17, 30, 31, 32, 33, 34, 35, 36, 37, 38, 39, 40, 41] (by decide +kernel) (by decide +kernel)
set_option maxRecDepth 20000 in
theorem gX0_apply_X0_addRat : GoodIn wsX0_apply (wsV RX0 53 RX0 yX0_addRat wsX0_addRat) := goodIn_app (goodIn_of _ (by decide +kernel)) ggX0_apply_X0_addRat
set_option maxRecDepth 20000 in
theorem ggX0_apply_X0_empty : GoodIn wsX0_apply wsX0_empty := goodIn_r _ [21, 9, 2, 10, 3, 30, 31, 32, 33, 34, 35, 36, 37, 38, 39, 40, 41] (by decide +kernel) (by decide +kernel)
set_option maxRecDepth 20000 in
theorem gX0_apply_X0_empty : GoodIn wsX0_apply (wsV RX0 57 RX0 yX0_empty wsX0_empty) := goodIn_app (goodIn_of _ (by decide +kernel)) ggX0_apply_X0_empty
set_option maxRecDepth 20000 in
theorem ggX0_apply_X0_addMouse : GoodIn wsX0_apply wsX0_addMouse := goodIn_r _ [25, 9, 26, 27, 28, 29, 30, 31, 32, 33, 34, 35, 36, 37, 38, 39, 40, 41] (by decide +kernel) (by decide +kernel)
set_option maxRecDepth 20000 in
theorem gX0_apply_X0_addMouse : GoodIn wsX0_apply (wsV RX0 60 RX0 yX0_addMouse wsX0_addMouse) := goodIn_app (goodIn_of _ (by decide +kernel)) ggX0_apply_X0_addMouse
set_option maxRecDepth 20000 in
theorem ggX0_fearOf_X0_hasMouse : GoodIn wsX0_fearOf wsX0_hasMouse := goodIn_r _ [6, 7, 8, 9, 10, 11, 12, 13, 14, 15, 16, 17, 18, 19] (by decide +kernel) (by decide +kernel)
set_option maxRecDepth 20000 in
theorem gX0_fearOf_X0_hasMouse : GoodIn wsX0_fearOf (wsV RX0 64 RX0 yX0_hasMouse wsX0_hasMouse) := goodIn_app (goodIn_of _ (by decide +kernel)) ggX0_fearOf_X0_hasMouse
set_option maxRecDepth 20000 in
theorem ggX0_worthOf_X0_hasRat : GoodIn wsX0_worthOf wsX0_hasRat := goodIn_r _ [9, 10, 11, 12, 13, 14, 15, 16, 17, 18, 19, 20, 21, 22] (by decide +kernel) (by decide +kernel)
set_option maxRecDepth 20000 in
theorem gX0_worthOf_X0_hasRat : GoodIn wsX0_worthOf (wsV RX0 67 RX0 yX0_hasRat wsX0_hasRat) := goodIn_app (goodIn_of _ (by decide +kernel)) ggX0_worthOf_X0_hasRat
set_option maxRecDepth 20000 in
theorem ggX0_dangerAt_X0_hasStep : GoodIn wsX0_dangerAt wsX0_hasStep := goodIn_r _ [8, 9, 25, 26, 27, 28, 29, 30, 31, 32, 33, 34, 35, 36] (by decide +kernel) (by decide +kernel)
set_option maxRecDepth 20000 in
theorem gX0_dangerAt_X0_hasStep : GoodIn wsX0_dangerAt (wsV RX0 70 RX0 yX0_hasStep wsX0_hasStep) := goodIn_app (goodIn_of _ (by decide +kernel)) ggX0_dangerAt_X0_hasStep
set_option maxRecDepth 20000 in
theorem ggX0_dangerAt_X0_hasMouse : GoodIn wsX0_dangerAt wsX0_hasMouse := goodIn_r _ [13, 14, 25, 26, 27, 28, 29, 30, 31, 32, 33, 34, 35, 36] (by decide +kernel) (by decide +kernel)
set_option maxRecDepth 20000 in
theorem gX0_dangerAt_X0_hasMouse : GoodIn wsX0_dangerAt (wsV RX0 64 RX0 yX0_hasMouse wsX0_hasMouse) := goodIn_app (goodIn_of _ (by decide +kernel)) ggX0_dangerAt_X0_hasMouse
set_option maxRecDepth 20000 in
theorem ggX0_dangerAt_X7_dangerOf : GoodIn wsX0_dangerAt wsX7_dangerOf := goodIn_r _ [17, 18, 19, 20, 21, 22, 23, 24] (by decide +kernel) (by decide +kernel)
set_option maxRecDepth 20000 in
theorem gX0_dangerAt_X7_dangerOf_n73 : GoodIn wsX0_dangerAt (wsX7_dangerOf) := ggX0_dangerAt_X7_dangerOf
set_option maxRecDepth 20000 in
theorem ggX0_aloneAbove_X0_dangerAt : GoodIn wsX0_aloneAbove wsX0_dangerAt := goodIn_r _ [7, 8, 9, 10, 11, 12, 13, 6, 14, 1, 15, 16, 17, 18, 19, 20, 21, 22, 23, 24, 25, 26, 27, 28, 29, 30, 31, 32, 33, 34, 35, 36, 37, 38, 39, 40, 41] (by decide +kernel) (by decide +kernel)
set_option maxRecDepth 20000 in
theorem gX0_aloneAbove_X0_dangerAt : GoodIn wsX0_aloneAbove (wsV RX0 79 RX0 yX0_dangerAt wsX0_dangerAt) := goodIn_app (goodIn_of _ (by decide +kernel)) ggX0_aloneAbove_X0_dangerAt
set_option maxRecDepth 20000 in
theorem ggX0_dreadAbove_X0_fearOf : GoodIn wsX0_dreadAbove wsX0_fearOf := goodIn_r _ [5, 6, 7, 8, 9, 4, 10, 11, 39, 40, 41, 42, 43, 44, 45, 46, 47, 48, 49, 50] (by decide +kernel) (by decide +kernel)
set_option maxRecDepth 20000 in
theorem gX0_dreadAbove_X0_fearOf : GoodIn wsX0_dreadAbove (wsV RX0 83 RX0 yX0_fearOf wsX0_fearOf) := goodIn_app (goodIn_of _ (by decide +kernel)) ggX0_dreadAbove_X0_fearOf
set_option maxRecDepth 20000 in
theorem ggX0_dreadAbove_X0_aloneAbove : GoodIn wsX0_dreadAbove wsX0_aloneAbove := goodIn_r _ [15, 16, 17, 18, 19, 20, 4, 21, 22, 23, 24, 25, 26, 27, 28, 7, 8, 9, 10, 11, 29, 30, 31, 32, 33, 34, 35, 36, 37, 38, 39, 40, 41, 42, 43, 44, 45, 46, 47, 48, 49, 50] (by decide +kernel) (by decide +kernel)
set_option maxRecDepth 20000 in
theorem gX0_dreadAbove_X0_aloneAbove : GoodIn wsX0_dreadAbove (wsV RX0 87 RX0 yX0_aloneAbove wsX0_aloneAbove) := goodIn_app (goodIn_of _ (by decide +kernel)) ggX0_dreadAbove_X0_aloneAbove
set_option maxRecDepth 20000 in
theorem ggX1_weigh_X7_tenTo : GoodIn wsX1_weigh wsX7_tenTo := goodIn_r _ [11, 12, 13, 10, 14] (by decide +kernel) (by decide +kernel)
set_option maxRecDepth 20000 in
theorem gX1_weigh_X7_tenTo_n32 : GoodIn wsX1_weigh (wsX7_tenTo) := ggX1_weigh_X7_tenTo
set_option maxRecDepth 20000 in
theorem ggX1_weigh_X0_dreadAbove : GoodIn wsX1_weigh wsX0_dreadAbove := goodIn_r _ [19, 20, 21, 22, 18, 23, 24, 25, 26, 27, 28, 29, 30, 31, 32, 33, 34, 35, 36, 37, 38, 39, 40, 41, 42, 43, 44, 45, 46, 47, 10, 48, 49, 50, 51, 52, 53, 54, 55, 61, 62, 63, 64, 65, 66, 67, 68, 69, 70, 71, 72] (by decide +kernel) (by decide +kernel)
set_option maxRecDepth 20000 in
theorem gX1_weigh_X0_dreadAbove : GoodIn wsX1_weigh (wsV RX1 42 RX0 yX0_dreadAbove wsX0_dreadAbove) := goodIn_app (goodIn_of _ (by decide +kernel)) ggX1_weigh_X0_dreadAbove
set_option maxRecDepth 20000 in
theorem ggX1_isAtRest_J6_bitCount_0f7a4 : GoodIn wsX1_isAtRest wsJ6_bitCount_0f7a4 := goodIn_r _ [9, 10, 11, 12] (by decide +kernel) (by decide +kernel)
set_option maxRecDepth 20000 in
theorem gX1_isAtRest_J6_bitCount_0f7a4 : GoodIn wsX1_isAtRest (va_wsS RX1 45 yJ6_bitCount_0f7a4 wsJ6_bitCount_0f7a4) := goodIn_app (goodIn_of _ (by decide +kernel)) ggX1_isAtRest_J6_bitCount_0f7a4
set_option maxRecDepth 20000 in
theorem ggX1_howManyRest_X1_isAtRest : GoodIn wsX1_howManyRest wsX1_isAtRest := goodIn_r _ [5, 6, 7, 8, 9, 10, 11, 12, 13, 14, 15, 16, 17, 18, 19, 20, 21, 22] (by decide +kernel) (by decide +kernel)
set_option maxRecDepth 20000 in
theorem gX1_howManyRest_X1_isAtRest : GoodIn wsX1_howManyRest (wsV RX1 51 RX1 yX1_isAtRest wsX1_isAtRest) := goodIn_app (goodIn_of _ (by decide +kernel)) ggX1_howManyRest_X1_isAtRest
set_option maxRecDepth 20000 in
theorem ggX1_leastAtRest_X1_isAtRest : GoodIn wsX1_leastAtRest wsX1_isAtRest := goodIn_r _ [5, 6, 7, 8, 9, 10, 11, 12, 13, 14, 15, 16, 17, 18, 19, 20, 21, 22] (by decide +kernel) (by decide +kernel)
set_option maxRecDepth 20000 in
theorem gX1_leastAtRest_X1_isAtRest : GoodIn wsX1_leastAtRest (wsV RX1 51 RX1 yX1_isAtRest wsX1_isAtRest) := goodIn_app (goodIn_of _ (by decide +kernel)) ggX1_leastAtRest_X1_isAtRest
set_option maxRecDepth 20000 in
theorem ggX2_run_J7_fill_53178 : GoodIn wsX2_run wsJ7_fill_53178 := goodIn_r _ [9] (by decide +kernel) (by decide +kernel)
set_option maxRecDepth 20000 in
theorem gX2_run_J7_fill_53178 : GoodIn wsX2_run (va_wsS RX2 18 yJ7_fill_53178 wsJ7_fill_53178) := goodIn_app (goodIn_of _ (by decide +kernel)) ggX2_run_J7_fill_53178
set_option maxRecDepth 20000 in
theorem ggX2_run_J6_bitCount_0f7a4 : GoodIn wsX2_run wsJ6_bitCount_0f7a4 := goodIn_r _ [13, 14, 15, 16] (by decide +kernel) (by decide +kernel)
set_option maxRecDepth 20000 in
theorem gX2_run_J6_bitCount_0f7a4 : GoodIn wsX2_run (va_wsS RX2 36 yJ6_bitCount_0f7a4 wsJ6_bitCount_0f7a4) := goodIn_app (goodIn_of _ (by decide +kernel)) ggX2_run_J6_bitCount_0f7a4
set_option maxRecDepth 20000 in
theorem ggX2_run_X2_tryFrom : GoodIn wsX2_run wsX2_tryFrom := goodIn_r _ [20, 4, 3, 21, 22, 5, 23, 24, 25, 26, 27, 28, 29, 30, 31, 19, 32, 1, 33, 34, 35, 36, 37, 38, 39, 40, 41, 42, 43, 44, 45, 46, 47, 48, 49, 50, 51, 52, 53, 54, 55, 56, 57, 58, 59, 60, 61, 62, 63, 64, 17, 18, 69, 70, 71, 72, 73, 74, 75, 76, 77, 78, 79, 80, 65, 66, 67, 68] (by decide +kernel) (by decide +kernel)
set_option maxRecDepth 20000 in
theorem gX2_run_X2_tryFrom : GoodIn wsX2_run (va_wsS RX2 46 yX2_tryFrom wsX2_tryFrom) := goodIn_app (goodIn_of _ (by decide +kernel)) ggX2_run_X2_tryFrom
set_option maxRecDepth 20000 in
theorem ggX2_tryFrom_X0_hasStep : GoodIn wsX2_tryFrom wsX0_hasStep := goodIn_r _ [10, 11, 52, 53, 54, 55, 56, 57, 58, 59, 60, 61, 62, 63] (by decide +kernel) (by decide +kernel)
set_option maxRecDepth 20000 in
theorem gX2_tryFrom_X0_hasStep : GoodIn wsX2_tryFrom (wsV RX2 50 RX0 yX0_hasStep wsX0_hasStep) := goodIn_app (goodIn_of _ (by decide +kernel)) ggX2_tryFrom_X0_hasStep
set_option maxRecDepth 20000 in
theorem ggX2_tryFrom_X2_takeIfBetter : GoodIn wsX2_tryFrom wsX2_takeIfBetter := goodIn_r _ [16, 2, 4, 17, 18, 19, 20, 21, 64, 65, 66, 67] (by decide +kernel) (by decide +kernel)
set_option maxRecDepth 20000 in
theorem gX2_tryFrom_X2_takeIfBetter : GoodIn wsX2_tryFrom (wsV RX2 54 RX2 yX2_takeIfBetter wsX2_takeIfBetter) := goodIn_app (goodIn_of _ (by decide +kernel)) ggX2_tryFrom_X2_takeIfBetter
set_option maxRecDepth 20000 in
theorem ggX2_tryFrom_X7_tenTo : GoodIn wsX2_tryFrom wsX7_tenTo := goodIn_r _ [24, 25, 26, 23, 27] (by decide +kernel) (by decide +kernel)
set_option maxRecDepth 20000 in
theorem gX2_tryFrom_X7_tenTo_n58 : GoodIn wsX2_tryFrom (wsX7_tenTo) := ggX2_tryFrom_X7_tenTo
set_option maxRecDepth 20000 in
theorem ggX2_tryFrom_X0_dangerAt : GoodIn wsX2_tryFrom wsX0_dangerAt := goodIn_r _ [31, 32, 33, 34, 35, 7, 8, 9, 10, 11, 36, 37, 38, 39, 40, 41, 23, 42, 43, 44, 45, 46, 47, 48, 49, 52, 53, 54, 55, 56, 57, 58, 59, 60, 61, 62, 63] (by decide +kernel) (by decide +kernel)
set_option maxRecDepth 20000 in
theorem gX2_tryFrom_X0_dangerAt : GoodIn wsX2_tryFrom (wsV RX2 65 RX0 yX0_dangerAt wsX0_dangerAt) := goodIn_app (goodIn_of _ (by decide +kernel)) ggX2_tryFrom_X0_dangerAt
set_option maxRecDepth 20000 in
theorem ggX2_tryFrom_X2_tryFrom : GoodIn wsX2_tryFrom wsX2_tryFrom := goodIn_r _ [0, 1, 2, 3, 4, 5, 6, 7, 8, 9, 10, 11, 12, 13, 14, 15, 16, 17, 18, 19, 20, 21, 22, 23, 24, 25, 26, 27, 28, 29, 30, 31, 32, 33, 34, 35, 36, 37, 38, 39, 40, 41, 42, 43, 44, 45, 46, 47, 48, 49, 50, 51, 52, 53, 54, 55, 56, 57, 58, 59, 60, 61, 62, 63, 64, 65, 66, 67] (by decide +kernel) (by decide +kernel)
set_option maxRecDepth 20000 in
theorem gX2_tryFrom_X2_tryFrom : GoodIn wsX2_tryFrom (va_wsS RX2 46 yX2_tryFrom wsX2_tryFrom) := goodIn_app (goodIn_of _ (by decide +kernel)) ggX2_tryFrom_X2_tryFrom
set_option maxRecDepth 20000 in
theorem ggX3_possibleAt_X0_dangerAt : GoodIn wsX3_possibleAt wsX0_dangerAt := goodIn_r _ [6, 7, 8, 9, 10, 11, 12, 5, 13, 14, 15, 16, 17, 18, 19, 20, 21, 22, 23, 24, 25, 26, 27, 28, 29, 38, 39, 40, 41, 42, 43, 44, 45, 46, 47, 48, 49] (by decide +kernel) (by decide +kernel)
set_option maxRecDepth 20000 in
theorem gX3_possibleAt_X0_dangerAt : GoodIn wsX3_possibleAt (wsV RX3 27 RX0 yX0_dangerAt wsX0_dangerAt) := goodIn_app (goodIn_of _ (by decide +kernel)) ggX3_possibleAt_X0_dangerAt
set_option maxRecDepth 20000 in
theorem ggX3_possibleAt_X3_isPossible : GoodIn wsX3_possibleAt wsX3_isPossible := goodIn_r _ [34, 35, 36, 37, 50, 51, 52] (by decide +kernel) (by decide +kernel)
set_option maxRecDepth 20000 in
theorem gX3_possibleAt_X3_isPossible : GoodIn wsX3_possibleAt (wsV RX3 31 RX3 yX3_isPossible wsX3_isPossible) := goodIn_app (goodIn_of _ (by decide +kernel)) ggX3_possibleAt_X3_isPossible
set_option maxRecDepth 20000 in
theorem ggX3_rowCount_X3_possibleAt : GoodIn wsX3_rowCount wsX3_possibleAt := goodIn_r _ [6, 7, 8, 9, 10, 11, 12, 13, 14, 15, 16, 17, 18, 19, 20, 21, 22, 23, 24, 25, 26, 27, 28, 29, 30, 31, 32, 33, 34, 35, 36, 37, 38, 5, 39, 40, 41, 42, 50, 51, 52, 53, 54, 55, 56, 57, 58, 59, 60, 61, 62, 63, 64] (by decide +kernel) (by decide +kernel)
set_option maxRecDepth 20000 in
theorem gX3_rowCount_X3_possibleAt : GoodIn wsX3_rowCount (wsV RX3 38 RX3 yX3_possibleAt wsX3_possibleAt) := goodIn_app (goodIn_of _ (by decide +kernel)) ggX3_rowCount_X3_possibleAt
set_option maxRecDepth 20000 in
theorem ggX3_rowCount_J6_bitCount_0f7a4 : GoodIn wsX3_rowCount wsJ6_bitCount_0f7a4 := goodIn_r _ [46, 47, 48, 49] (by decide +kernel) (by decide +kernel)
set_option maxRecDepth 20000 in
theorem gX3_rowCount_J6_bitCount_0f7a4 : GoodIn wsX3_rowCount (va_wsS RX3 42 yJ6_bitCount_0f7a4 wsJ6_bitCount_0f7a4) := goodIn_app (goodIn_of _ (by decide +kernel)) ggX3_rowCount_J6_bitCount_0f7a4
set_option maxRecDepth 20000 in
theorem ggX3_inAllRows_X3_rowCount : GoodIn wsX3_inAllRows wsX3_rowCount := goodIn_r _ [6, 1, 7, 8, 9, 5, 10, 11, 12, 13, 14, 15, 16, 17, 18, 19, 20, 21, 22, 23, 24, 25, 26, 27, 28, 29, 30, 31, 32, 33, 34, 35, 36, 37, 38, 39, 40, 41, 42, 43, 44, 45, 46, 47, 48, 49, 50, 51, 52, 53, 54, 55, 56, 57, 58, 59, 60, 61, 62, 63, 64, 65, 66, 67, 68] (by decide +kernel) (by decide +kernel)
set_option maxRecDepth 20000 in
theorem gX3_inAllRows_X3_rowCount : GoodIn wsX3_inAllRows (wsV RX3 48 RX3 yX3_rowCount wsX3_rowCount) := goodIn_app (goodIn_of _ (by decide +kernel)) ggX3_inAllRows_X3_rowCount
set_option maxRecDepth 20000 in
theorem ggX3_inAllRows_X3_possibleAt : GoodIn wsX3_inAllRows wsX3_possibleAt := goodIn_r _ [10, 11, 12, 13, 14, 15, 16, 17, 18, 19, 20, 21, 22, 23, 24, 25, 26, 27, 28, 29, 30, 31, 32, 33, 34, 35, 36, 37, 38, 39, 40, 41, 42, 5, 43, 44, 45, 46, 54, 55, 56, 57, 58, 59, 60, 61, 62, 63, 64, 65, 66, 67, 68] (by decide +kernel) (by decide +kernel)
set_option maxRecDepth 20000 in
theorem gX3_inAllRows_X3_possibleAt : GoodIn wsX3_inAllRows (wsV RX3 38 RX3 yX3_possibleAt wsX3_possibleAt) := goodIn_app (goodIn_of _ (by decide +kernel)) ggX3_inAllRows_X3_possibleAt
set_option maxRecDepth 20000 in
theorem ggX3_inAllRows_J6_bitCount_0f7a4 : GoodIn wsX3_inAllRows wsJ6_bitCount_0f7a4 := goodIn_r _ [50, 51, 52, 53] (by decide +kernel) (by decide +kernel)
set_option maxRecDepth 20000 in
theorem gX3_inAllRows_J6_bitCount_0f7a4 : GoodIn wsX3_inAllRows (va_wsS RX3 42 yJ6_bitCount_0f7a4 wsJ6_bitCount_0f7a4) := goodIn_app (goodIn_of _ (by decide +kernel)) ggX3_inAllRows_J6_bitCount_0f7a4
set_option maxRecDepth 20000 in
theorem ggX4_init_J7_fill_53178 : GoodIn wsX4_init wsJ7_fill_53178 := goodIn_r _ [9] (by decide +kernel) (by decide +kernel)
set_option maxRecDepth 20000 in
theorem gX4_init_J7_fill_53178 : GoodIn wsX4_init (va_wsS RX4 15 yJ7_fill_53178 wsJ7_fill_53178) := goodIn_app (goodIn_of _ (by decide +kernel)) ggX4_init_J7_fill_53178
set_option maxRecDepth 20000 in
theorem ggX4_begin_X4_dismiss : GoodIn wsX4_begin wsX4_dismiss := goodIn_r _ [8, 9, 10, 11, 12, 13, 14, 15, 16, 17] (by decide +kernel) (by decide +kernel)
set_option maxRecDepth 20000 in
theorem gX4_begin_X4_dismiss : GoodIn wsX4_begin (wsV RX4 21 RX4 yX4_dismiss wsX4_dismiss) := goodIn_app (goodIn_of _ (by decide +kernel)) ggX4_begin_X4_dismiss
set_option maxRecDepth 20000 in
theorem ggX4_dismiss_J7_fill_53178 : GoodIn wsX4_dismiss wsJ7_fill_53178 := goodIn_r _ [5] (by decide +kernel) (by decide +kernel)
set_option maxRecDepth 20000 in
theorem gX4_dismiss_J7_fill_53178 : GoodIn wsX4_dismiss (va_wsS RX4 15 yJ7_fill_53178 wsJ7_fill_53178) := goodIn_app (goodIn_of _ (by decide +kernel)) ggX4_dismiss_J7_fill_53178
set_option maxRecDepth 20000 in
theorem ggX4_lose_X4_lives : GoodIn wsX4_lose wsX4_lives := goodIn_r _ [7, 1, 8, 9, 10, 11] (by decide +kernel) (by decide +kernel)
set_option maxRecDepth 20000 in
theorem gX4_lose_X4_lives : GoodIn wsX4_lose (wsV RX4 35 RX4 yX4_lives wsX4_lives) := goodIn_app (goodIn_of _ (by decide +kernel)) ggX4_lose_X4_lives
set_option maxRecDepth 20000 in
theorem ggX4_isWhole_X4_doerOf : GoodIn wsX4_isWhole wsX4_doerOf := goodIn_r _ [5, 6, 12, 13, 14, 15] (by decide +kernel) (by decide +kernel)
set_option maxRecDepth 20000 in
theorem gX4_isWhole_X4_doerOf : GoodIn wsX4_isWhole (wsV RX4 39 RX4 yX4_doerOf wsX4_doerOf) := goodIn_app (goodIn_of _ (by decide +kernel)) ggX4_isWhole_X4_doerOf
set_option maxRecDepth 20000 in
theorem ggX4_isWhole_X4_lives : GoodIn wsX4_isWhole wsX4_lives := goodIn_r _ [10, 11, 12, 13, 14, 15] (by decide +kernel) (by decide +kernel)
set_option maxRecDepth 20000 in
theorem gX4_isWhole_X4_lives : GoodIn wsX4_isWhole (wsV RX4 35 RX4 yX4_lives wsX4_lives) := goodIn_app (goodIn_of _ (by decide +kernel)) ggX4_isWhole_X4_lives
set_option maxRecDepth 20000 in
theorem ggX5_readInto_X5_nextToken : GoodIn wsX5_readInto wsX5_nextToken := goodIn_r _ [9, 1, 2, 3, 10, 11, 12, 13, 14, 15, 16, 8, 17, 18, 19, 20, 21, 22, 23, 24, 25, 26, 27, 28, 29, 30, 31, 32, 33, 34, 35, 36, 147, 148, 149, 150, 151, 152] (by decide +kernel) (by decide +kernel)
set_option maxRecDepth 20000 in
theorem gX5_readInto_X5_nextToken : GoodIn wsX5_readInto (wsV RX5 25 RX5 yX5_nextToken wsX5_nextToken) := goodIn_app (goodIn_of _ (by decide +kernel)) ggX5_readInto_X5_nextToken
set_option maxRecDepth 20000 in
theorem ggX5_readInto_X5_readClause : GoodIn wsX5_readInto wsX5_readClause := goodIn_r _ [40, 41, 42, 43, 44, 8, 45, 2, 18, 19, 20, 21, 3, 22, 46, 47, 48, 49, 1, 50, 51, 52, 53, 54, 55, 56, 57, 58, 59, 60, 61, 62, 63, 64, 65, 66, 67, 68, 69, 70, 71, 72, 73, 74, 75, 76, 77, 78, 79, 80, 81, 82, 83, 84, 85, 86, 87, 88, 89, 90, 91, 92, 93, 94, 95, 96, 97, 98, 99, 100, 101, 102, 103, 104, 105, 106, 5, 6, 7, 9, 10, 11, 12, 13, 14, 15, 16, 17, 23, 24, 25, 26, 27, 28, 29, 30, 31, 32, 33, 34, 35, 36, 107, 108, 109, 110, 111, 112, 113, 114, 115, 116, 117, 118, 119, 120, 121, 122, 123, 124, 125, 126, 127, 128, 129, 130, 131, 132, 133, 134, 135, 136, 137, 138, 139, 140, 141, 142, 143, 144, 145, 146, 147, 148, 149, 150, 151, 152, 153, 154, 155, 156, 157, 158, 159, 160, 161, 162, 163, 164] (by decide +kernel) (by decide +kernel)
set_option maxRecDepth 20000 in
theorem gX5_readInto_X5_readClause : GoodIn wsX5_readInto (wsV RX5 28 RX5 yX5_readClause wsX5_readClause) := goodIn_app (goodIn_of _ (by decide +kernel)) ggX5_readInto_X5_readClause
set_option maxRecDepth 20000 in
theorem ggX5_readInto_X5_letterAt : GoodIn wsX5_readInto wsX5_letterAt := goodIn_r _ [21, 3, 22, 147, 148, 149, 150, 151, 152] (by decide +kernel) (by decide +kernel)
set_option maxRecDepth 20000 in
theorem gX5_readInto_X5_letterAt : GoodIn wsX5_readInto (wsV RX5 38 RX5 yX5_letterAt wsX5_letterAt) := goodIn_app (goodIn_of _ (by decide +kernel)) ggX5_readInto_X5_letterAt
set_option maxRecDepth 20000 in
theorem ggX5_readClause_X5_wordHere : GoodIn wsX5_readClause wsX5_wordHere := goodIn_r _ [6, 7, 8, 9, 10, 5, 11, 12, 13, 14, 15, 16, 17, 18, 19, 20, 21, 22, 23, 24, 25, 26, 27, 28, 29, 30, 31, 32, 33, 34, 35, 36, 37, 38, 39, 40, 41, 42, 43, 44, 45, 46, 47, 48, 49, 50, 51, 52, 53, 54, 55, 56, 57, 58, 59, 60, 61, 62, 63, 64, 65, 66, 67, 142, 143, 144, 145, 146, 147] (by decide +kernel) (by decide +kernel)
set_option maxRecDepth 20000 in
theorem gX5_readClause_X5_wordHere : GoodIn wsX5_readClause (wsV RX5 42 RX5 yX5_wordHere wsX5_wordHere) := goodIn_app (goodIn_of _ (by decide +kernel)) ggX5_readClause_X5_wordHere
set_option maxRecDepth 20000 in
theorem ggX5_readClause_X0_takes : GoodIn wsX5_readClause wsX0_takes := goodIn_r _ [72, 73, 74, 75, 148, 149, 150, 151, 152, 153, 154, 155, 156, 157, 158, 159] (by decide +kernel) (by decide +kernel)
set_option maxRecDepth 20000 in
theorem gX5_readClause_X0_takes : GoodIn wsX5_readClause (wsV RX5 46 RX0 yX0_takes wsX0_takes) := goodIn_app (goodIn_of _ (by decide +kernel)) ggX5_readClause_X0_takes
set_option maxRecDepth 20000 in
theorem ggX5_readClause_X5_nextToken : GoodIn wsX5_readClause wsX5_nextToken := goodIn_r _ [79, 18, 7, 12, 80, 81, 82, 83, 84, 85, 86, 5, 87, 8, 9, 10, 11, 13, 88, 89, 90, 91, 92, 93, 94, 95, 96, 97, 98, 99, 100, 101, 142, 143, 144, 145, 146, 147] (by decide +kernel) (by decide +kernel)
set_option maxRecDepth 20000 in
theorem gX5_readClause_X5_nextToken : GoodIn wsX5_readClause (wsV RX5 25 RX5 yX5_nextToken wsX5_nextToken) := goodIn_app (goodIn_of _ (by decide +kernel)) ggX5_readClause_X5_nextToken
set_option maxRecDepth 20000 in
theorem ggX5_readClause_J7_fill_53178 : GoodIn wsX5_readClause wsJ7_fill_53178 := goodIn_r _ [105] (by decide +kernel) (by decide +kernel)
set_option maxRecDepth 20000 in
theorem gX5_readClause_J7_fill_53178 : GoodIn wsX5_readClause (va_wsS RX5 52 yJ7_fill_53178 wsJ7_fill_53178) := goodIn_app (goodIn_of _ (by decide +kernel)) ggX5_readClause_J7_fill_53178
set_option maxRecDepth 20000 in
theorem ggX5_readClause_X5_numbersBehind : GoodIn wsX5_readClause wsX5_numbersBehind := goodIn_r _ [108] (by decide +kernel) (by decide +kernel)
set_option maxRecDepth 20000 in
theorem gX5_readClause_X5_numbersBehind : GoodIn wsX5_readClause (va_wsS RX5 58 yX5_numbersBehind wsX5_numbersBehind) := goodIn_app (goodIn_of _ (by decide +kernel)) ggX5_readClause_X5_numbersBehind
set_option maxRecDepth 20000 in
theorem ggX5_readClause_X5_numberHere : GoodIn wsX5_readClause wsX5_numberHere := goodIn_r _ [112, 7, 18, 8, 9, 10, 5, 11, 12, 13, 95, 96, 97, 142, 143, 144, 145, 146, 147] (by decide +kernel) (by decide +kernel)
set_option maxRecDepth 20000 in
theorem gX5_readClause_X5_numberHere : GoodIn wsX5_readClause (wsV RX5 61 RX5 yX5_numberHere wsX5_numberHere) := goodIn_app (goodIn_of _ (by decide +kernel)) ggX5_readClause_X5_numberHere
set_option maxRecDepth 20000 in
theorem ggX5_readClause_X5_mostOf : GoodIn wsX5_readClause wsX5_mostOf := goodIn_r _ [115] (by decide +kernel) (by decide +kernel)
set_option maxRecDepth 20000 in
theorem gX5_readClause_X5_mostOf : GoodIn wsX5_readClause (va_wsS RX5 64 yX5_mostOf wsX5_mostOf) := goodIn_app (goodIn_of _ (by decide +kernel)) ggX5_readClause_X5_mostOf
set_option maxRecDepth 20000 in
theorem ggX5_readClause_X0_apply : GoodIn wsX5_readClause wsX0_apply := goodIn_r _ [119, 120, 74, 121, 122, 69, 70, 71, 72, 73, 75, 123, 124, 125, 126, 127, 128, 129, 130, 131, 132, 133, 134, 135, 136, 137, 138, 139, 140, 141, 148, 149, 150, 151, 152, 153, 154, 155, 156, 157, 158, 159] (by decide +kernel) (by decide +kernel)
set_option maxRecDepth 20000 in
theorem gX5_readClause_X0_apply : GoodIn wsX5_readClause (wsV RX5 68 RX0 yX0_apply wsX0_apply) := goodIn_app (goodIn_of _ (by decide +kernel)) ggX5_readClause_X0_apply
set_option maxRecDepth 20000 in
theorem ggX5_nextToken_X5_endOfBlanks : GoodIn wsX5_nextToken wsX5_endOfBlanks := goodIn_r _ [12, 3, 13, 14, 15, 11, 16, 17, 32, 33, 34, 35, 36, 37] (by decide +kernel) (by decide +kernel)
set_option maxRecDepth 20000 in
theorem gX5_nextToken_X5_endOfBlanks : GoodIn wsX5_nextToken (wsV RX5 72 RX5 yX5_endOfBlanks wsX5_endOfBlanks) := goodIn_app (goodIn_of _ (by decide +kernel)) ggX5_nextToken_X5_endOfBlanks
set_option maxRecDepth 20000 in
theorem ggX5_nextToken_X5_letterAt : GoodIn wsX5_nextToken wsX5_letterAt := goodIn_r _ [16, 3, 17, 32, 33, 34, 35, 36, 37] (by decide +kernel) (by decide +kernel)
set_option maxRecDepth 20000 in
theorem gX5_nextToken_X5_letterAt : GoodIn wsX5_nextToken (wsV RX5 38 RX5 yX5_letterAt wsX5_letterAt) := goodIn_app (goodIn_of _ (by decide +kernel)) ggX5_nextToken_X5_letterAt
set_option maxRecDepth 20000 in
theorem ggX5_nextToken_X5_isSmall : GoodIn wsX5_nextToken wsX5_isSmall := goodIn_r _ [20] (by decide +kernel) (by decide +kernel)
set_option maxRecDepth 20000 in
theorem gX5_nextToken_X5_isSmall : GoodIn wsX5_nextToken (va_wsS RX5 75 yX5_isSmall wsX5_isSmall) := goodIn_app (goodIn_of _ (by decide +kernel)) ggX5_nextToken_X5_isSmall
set_option maxRecDepth 20000 in
theorem ggX5_nextToken_X5_endOfWord : GoodIn wsX5_nextToken wsX5_endOfWord := goodIn_r _ [24, 3, 13, 14, 15, 11, 16, 17, 18, 19, 20, 32, 33, 34, 35, 36, 37] (by decide +kernel) (by decide +kernel)
set_option maxRecDepth 20000 in
theorem gX5_nextToken_X5_endOfWord : GoodIn wsX5_nextToken (wsV RX5 78 RX5 yX5_endOfWord wsX5_endOfWord) := goodIn_app (goodIn_of _ (by decide +kernel)) ggX5_nextToken_X5_endOfWord
set_option maxRecDepth 20000 in
theorem ggX5_nextToken_X5_isDigit : GoodIn wsX5_nextToken wsX5_isDigit := goodIn_r _ [27] (by decide +kernel) (by decide +kernel)
set_option maxRecDepth 20000 in
theorem gX5_nextToken_X5_isDigit : GoodIn wsX5_nextToken (va_wsS RX5 81 yX5_isDigit wsX5_isDigit) := goodIn_app (goodIn_of _ (by decide +kernel)) ggX5_nextToken_X5_isDigit
set_option maxRecDepth 20000 in
theorem ggX5_nextToken_X5_endOfNumber : GoodIn wsX5_nextToken wsX5_endOfNumber := goodIn_r _ [31, 3, 13, 14, 15, 11, 16, 17, 25, 26, 27, 32, 33, 34, 35, 36, 37] (by decide +kernel) (by decide +kernel)
set_option maxRecDepth 20000 in
theorem gX5_nextToken_X5_endOfNumber : GoodIn wsX5_nextToken (wsV RX5 84 RX5 yX5_endOfNumber wsX5_endOfNumber) := goodIn_app (goodIn_of _ (by decide +kernel)) ggX5_nextToken_X5_endOfNumber
set_option maxRecDepth 20000 in
theorem ggX5_endOfBlanks_X5_letterAt : GoodIn wsX5_endOfBlanks wsX5_letterAt := goodIn_r _ [6, 1, 7, 8, 9, 10, 11, 12, 13] (by decide +kernel) (by decide +kernel)
set_option maxRecDepth 20000 in
theorem gX5_endOfBlanks_X5_letterAt : GoodIn wsX5_endOfBlanks (wsV RX5 38 RX5 yX5_letterAt wsX5_letterAt) := goodIn_app (goodIn_of _ (by decide +kernel)) ggX5_endOfBlanks_X5_letterAt
set_option maxRecDepth 20000 in
theorem ggX5_endOfWord_X5_letterAt : GoodIn wsX5_endOfWord wsX5_letterAt := goodIn_r _ [6, 1, 7, 11, 12, 13, 14, 15, 16] (by decide +kernel) (by decide +kernel)
set_option maxRecDepth 20000 in
theorem gX5_endOfWord_X5_letterAt : GoodIn wsX5_endOfWord (wsV RX5 38 RX5 yX5_letterAt wsX5_letterAt) := goodIn_app (goodIn_of _ (by decide +kernel)) ggX5_endOfWord_X5_letterAt
set_option maxRecDepth 20000 in
theorem ggX5_endOfWord_X5_isSmall : GoodIn wsX5_endOfWord wsX5_isSmall := goodIn_r _ [10] (by decide +kernel) (by decide +kernel)
set_option maxRecDepth 20000 in
theorem gX5_endOfWord_X5_isSmall : GoodIn wsX5_endOfWord (va_wsS RX5 75 yX5_isSmall wsX5_isSmall) := goodIn_app (goodIn_of _ (by decide +kernel)) ggX5_endOfWord_X5_isSmall
set_option maxRecDepth 20000 in
theorem ggX5_endOfNumber_X5_letterAt : GoodIn wsX5_endOfNumber wsX5_letterAt := goodIn_r _ [6, 1, 7, 11, 12, 13, 14, 15, 16] (by decide +kernel) (by decide +kernel)
set_option maxRecDepth 20000 in
theorem gX5_endOfNumber_X5_letterAt : GoodIn wsX5_endOfNumber (wsV RX5 38 RX5 yX5_letterAt wsX5_letterAt) := goodIn_app (goodIn_of _ (by decide +kernel)) ggX5_endOfNumber_X5_letterAt
set_option maxRecDepth 20000 in
theorem ggX5_endOfNumber_X5_isDigit : GoodIn wsX5_endOfNumber wsX5_isDigit := goodIn_r _ [10] (by decide +kernel) (by decide +kernel)
set_option maxRecDepth 20000 in
theorem gX5_endOfNumber_X5_isDigit : GoodIn wsX5_endOfNumber (va_wsS RX5 81 yX5_isDigit wsX5_isDigit) := goodIn_app (goodIn_of _ (by decide +kernel)) ggX5_endOfNumber_X5_isDigit
set_option maxRecDepth 20000 in
theorem ggX5_wordHere_X5_letterAt : GoodIn wsX5_wordHere wsX5_letterAt := goodIn_r _ [6, 7, 8, 63, 64, 65, 66, 67, 68] (by decide +kernel) (by decide +kernel)
set_option maxRecDepth 20000 in
theorem gX5_wordHere_X5_letterAt : GoodIn wsX5_wordHere (wsV RX5 38 RX5 yX5_letterAt wsX5_letterAt) := goodIn_app (goodIn_of _ (by decide +kernel)) ggX5_wordHere_X5_letterAt
set_option maxRecDepth 20000 in
theorem ggX5_wordHere_X5_isHere : GoodIn wsX5_wordHere wsX5_isHere := goodIn_r _ [12, 13, 1, 14, 15, 16, 17, 18, 19, 20, 21, 22, 23, 24, 25, 2, 3, 4, 5, 6, 7, 8, 26, 27, 28, 29, 30, 31, 32, 33, 34, 35, 36, 37, 38, 39, 40, 41, 42, 43, 44, 45, 46, 47, 48, 49, 50, 51, 52, 53, 54, 55, 56, 57, 58, 59, 60, 61, 62, 63, 64, 65, 66, 67, 68] (by decide +kernel) (by decide +kernel)
set_option maxRecDepth 20000 in
theorem gX5_wordHere_X5_isHere : GoodIn wsX5_wordHere (wsV RX5 94 RX5 yX5_isHere wsX5_isHere) := goodIn_app (goodIn_of _ (by decide +kernel)) ggX5_wordHere_X5_isHere
set_option maxRecDepth 20000 in
theorem ggX5_isHere_J0_length_8abf5 : GoodIn wsX5_isHere wsJ0_length_8abf5 := goodIn_r _ [7, 8, 9, 10, 11, 6, 12, 13, 14] (by decide +kernel) (by decide +kernel)
set_option maxRecDepth 20000 in
theorem gX5_isHere_J0_length_8abf5 : GoodIn wsX5_isHere (wsV RX5 114 RJ0 yJ0_length_8abf5 wsJ0_length_8abf5) := goodIn_app (goodIn_of _ (by decide +kernel)) ggX5_isHere_J0_length_8abf5
set_option maxRecDepth 20000 in
theorem ggX5_isHere_X5_letterAt : GoodIn wsX5_isHere wsX5_letterAt := goodIn_r _ [19, 20, 21, 59, 60, 61, 62, 63, 64] (by decide +kernel) (by decide +kernel)
set_option maxRecDepth 20000 in
theorem gX5_isHere_X5_letterAt : GoodIn wsX5_isHere (wsV RX5 38 RX5 yX5_letterAt wsX5_letterAt) := goodIn_app (goodIn_of _ (by decide +kernel)) ggX5_isHere_X5_letterAt
set_option maxRecDepth 20000 in
theorem ggX5_isHere_J0_charAt_5068e : GoodIn wsX5_isHere wsJ0_charAt_5068e := goodIn_r _ [25, 8, 26, 27, 28, 6, 29, 13, 14, 30, 31, 32, 33, 34, 35, 36, 37, 38, 39, 40, 41, 42, 43, 44, 45, 46, 47, 48, 49, 50, 51, 52, 53, 54, 55, 56, 57, 58] (by decide +kernel) (by decide +kernel)
set_option maxRecDepth 20000 in
theorem gX5_isHere_J0_charAt_5068e : GoodIn wsX5_isHere (wsV RX5 118 RJ0 yJ0_charAt_5068e wsJ0_charAt_5068e) := goodIn_app (goodIn_of _ (by decide +kernel)) ggX5_isHere_J0_charAt_5068e
set_option maxRecDepth 20000 in
theorem ggX5_numberHere_X5_letterAt : GoodIn wsX5_numberHere wsX5_letterAt := goodIn_r _ [7, 8, 9, 13, 14, 15, 16, 17, 18] (by decide +kernel) (by decide +kernel)
set_option maxRecDepth 20000 in
theorem gX5_numberHere_X5_letterAt : GoodIn wsX5_numberHere (wsV RX5 38 RX5 yX5_letterAt wsX5_letterAt) := goodIn_app (goodIn_of _ (by decide +kernel)) ggX5_numberHere_X5_letterAt
set_option maxRecDepth 20000 in
theorem ggX5_numberHere_X5_isDigit : GoodIn wsX5_numberHere wsX5_isDigit := goodIn_r _ [12] (by decide +kernel) (by decide +kernel)
set_option maxRecDepth 20000 in
theorem gX5_numberHere_X5_isDigit : GoodIn wsX5_numberHere (va_wsS RX5 81 yX5_isDigit wsX5_isDigit) := goodIn_app (goodIn_of _ (by decide +kernel)) ggX5_numberHere_X5_isDigit
set_option maxRecDepth 20000 in
theorem ggX6_init_X4_init : GoodIn wsX6_init wsX4_init := goodIn_r _ [10, 11, 2, 3, 12, 13, 14, 15, 16, 17, 21, 22, 23, 24] (by decide +kernel) (by decide +kernel)
set_option maxRecDepth 20000 in
theorem gX6_init_X4_init : GoodIn wsX6_init (wsX4_init) := ggX6_init_X4_init
set_option maxRecDepth 20000 in
theorem ggX6_remember_X7_copyTeam : GoodIn wsX6_remember wsX7_copyTeam := goodIn_r _ [10, 11, 12, 13, 17, 18, 19, 20] (by decide +kernel) (by decide +kernel)
set_option maxRecDepth 20000 in
theorem gX6_remember_X7_copyTeam_n22 : GoodIn wsX6_remember (wsX7_copyTeam) := ggX6_remember_X7_copyTeam
set_option maxRecDepth 20000 in
theorem ggX6_restore_X7_copyTeam : GoodIn wsX6_restore wsX7_copyTeam := goodIn_r _ [6, 7, 8, 9, 13, 14, 15, 16] (by decide +kernel) (by decide +kernel)
set_option maxRecDepth 20000 in
theorem gX6_restore_X7_copyTeam_n22 : GoodIn wsX6_restore (wsX7_copyTeam) := ggX6_restore_X7_copyTeam
set_option maxRecDepth 20000 in
theorem ggX7_init_X5_init : GoodIn wsX7_init wsX5_init := goodIn_r _ [37, 38, 2, 3, 39, 40, 41, 83, 84, 85, 86, 87, 88] (by decide +kernel) (by decide +kernel)
set_option maxRecDepth 20000 in
theorem gX7_init_X5_init_n9 : GoodIn wsX7_init (wsX5_init) := ggX7_init_X5_init
set_option maxRecDepth 20000 in
theorem ggX7_init_X0_init : GoodIn wsX7_init wsX0_init := goodIn_r _ [43, 44, 2, 3, 39, 45, 46, 47, 48, 49, 50, 51, 52, 53, 99, 100, 101, 102, 103, 104, 105, 106, 107, 108, 109, 110] (by decide +kernel) (by decide +kernel)
set_option maxRecDepth 20000 in
theorem gX7_init_X0_init_n18 : GoodIn wsX7_init (wsX0_init) := ggX7_init_X0_init
set_option maxRecDepth 20000 in
theorem ggX7_init_X4_init : GoodIn wsX7_init wsX4_init := goodIn_r _ [56, 57, 2, 3, 39, 58, 59, 60, 61, 62, 111, 112, 113, 114] (by decide +kernel) (by decide +kernel)
set_option maxRecDepth 20000 in
theorem gX7_init_X4_init : GoodIn wsX7_init (wsX4_init) := ggX7_init_X4_init
set_option maxRecDepth 20000 in
theorem ggX7_init_X6_init : GoodIn wsX7_init wsX6_init := goodIn_r _ [65, 66, 2, 3, 67, 68, 14, 15, 69, 55, 56, 57, 39, 58, 59, 60, 61, 62, 115, 116, 117, 111, 112, 113, 114] (by decide +kernel) (by decide +kernel)
set_option maxRecDepth 20000 in
theorem gX7_init_X6_init : GoodIn wsX7_init (wsX6_init) := ggX7_init_X6_init
set_option maxRecDepth 20000 in
theorem ggX7_init_X3_init : GoodIn wsX7_init wsX3_init := goodIn_r _ [71, 72, 2, 3, 39, 73, 74, 118, 119, 120] (by decide +kernel) (by decide +kernel)
set_option maxRecDepth 20000 in
theorem gX7_init_X3_init_n50 : GoodIn wsX7_init (wsX3_init) := ggX7_init_X3_init
set_option maxRecDepth 20000 in
theorem ggX7_init_X2_init : GoodIn wsX7_init wsX2_init := goodIn_r _ [76, 77, 2, 3, 39, 78, 79, 121, 122, 123, 124] (by decide +kernel) (by decide +kernel)
set_option maxRecDepth 20000 in
theorem gX7_init_X2_init_n57 : GoodIn wsX7_init (wsX2_init) := ggX7_init_X2_init
set_option maxRecDepth 20000 in
theorem ggX7_init_X1_init : GoodIn wsX7_init wsX1_init := goodIn_r _ [81, 82, 2, 3] (by decide +kernel) (by decide +kernel)
set_option maxRecDepth 20000 in
theorem gX7_init_X1_init_n64 : GoodIn wsX7_init (wsX1_init) := ggX7_init_X1_init
set_option maxRecDepth 20000 in
theorem ggX7_write_X7_within : GoodIn wsX7_write wsX7_within := goodIn_r _ [6] (by decide +kernel) (by decide +kernel)
set_option maxRecDepth 20000 in
theorem gX7_write_X7_within : GoodIn wsX7_write (va_wsS RX7 69 yX7_within wsX7_within) := goodIn_app (goodIn_of _ (by decide +kernel)) ggX7_write_X7_within
set_option maxRecDepth 20000 in
theorem ggX7_write_X5_append : GoodIn wsX7_write wsX5_append := goodIn_r _ [11, 12, 13, 24, 25, 26, 27, 28, 29] (by decide +kernel) (by decide +kernel)
set_option maxRecDepth 20000 in
theorem gX7_write_X5_append : GoodIn wsX7_write (wsV RX7 73 RX5 yX5_append wsX5_append) := goodIn_app (goodIn_of _ (by decide +kernel)) ggX7_write_X5_append
set_option maxRecDepth 20000 in
theorem ggX7_fault_X7_readDraft : GoodIn wsX7_fault wsX7_readDraft := goodIn_r _ [5, 6, 7, 8, 9, 10, 11, 12, 13, 14, 15, 16, 17, 18, 19, 20, 21, 22, 23, 24, 25, 26, 27, 28, 29, 30, 31, 32, 33, 34, 35, 36, 37, 38, 39, 40, 41, 42, 43, 44, 45, 46, 47, 48, 49, 50, 51, 52, 53, 54, 55, 56, 57, 58, 59, 60, 61, 62, 63, 64, 65, 66, 67, 68, 69, 70, 71, 72, 73, 74, 75, 76, 77, 78, 79, 80, 81, 82, 83, 84, 85, 86, 87, 88, 89, 90, 91, 92, 93, 94, 95, 96, 97, 98, 99, 100, 101, 102, 103, 104, 105, 106, 107, 108, 109, 110, 111, 112, 113, 114, 115, 116, 117, 118, 119, 120, 121, 122, 123, 124, 125, 126, 127, 128, 129, 130, 131, 132, 133, 134, 135, 136, 137, 138, 139, 140, 141, 142, 143, 144, 145, 146, 147, 148, 149, 150, 151, 152, 153, 154, 155, 156, 157, 158, 159, 160, 161, 162, 163, 164, 165, 166, 167, 168, 169, 170, 171, 172, 173, 174, 175, 176, 177, 178, 179, 180, 181, 182, 183, 184, 185, 186, 187, 188, 189, 190] (by decide +kernel) (by decide +kernel)
set_option maxRecDepth 20000 in
theorem gX7_fault_X7_readDraft : GoodIn wsX7_fault (wsV RX7 81 RX7 yX7_readDraft wsX7_readDraft) := goodIn_app (goodIn_of _ (by decide +kernel)) ggX7_fault_X7_readDraft
set_option maxRecDepth 20000 in
theorem ggX7_house_X7_readDraft : GoodIn wsX7_house wsX7_readDraft := goodIn_r _ [17, 2, 1, 3, 18, 19, 20, 21, 22, 23, 24, 25, 26, 27, 28, 29, 30, 31, 32, 33, 34, 35, 36, 37, 38, 39, 40, 41, 42, 43, 44, 45, 46, 47, 48, 49, 50, 51, 52, 53, 54, 55, 56, 57, 58, 59, 60, 61, 62, 63, 64, 65, 66, 67, 68, 69, 70, 71, 72, 73, 74, 75, 76, 77, 78, 79, 80, 81, 82, 83, 84, 85, 86, 87, 88, 89, 90, 91, 92, 93, 94, 95, 96, 97, 98, 99, 100, 101, 102, 103, 104, 105, 106, 107, 108, 109, 110, 111, 112, 113, 114, 115, 116, 117, 118, 119, 120, 121, 122, 123, 124, 125, 126, 127, 128, 129, 130, 131, 132, 133, 134, 135, 136, 137, 138, 139, 140, 141, 142, 143, 144, 145, 146, 147, 148, 149, 150, 151, 152, 153, 154, 155, 156, 157, 158, 159, 160, 161, 162, 163, 164, 165, 166, 167, 168, 169, 170, 171, 186, 187, 188, 189, 190, 191, 192, 193, 194, 195, 202, 203, 204, 205, 206, 207, 208, 209, 210, 211, 212, 213, 196, 197, 198, 199, 200, 201] (by decide +kernel) (by decide +kernel)
set_option maxRecDepth 20000 in
theorem gX7_house_X7_readDraft : GoodIn wsX7_house (wsV RX7 81 RX7 yX7_readDraft wsX7_readDraft) := goodIn_app (goodIn_of _ (by decide +kernel)) ggX7_house_X7_readDraft
set_option maxRecDepth 20000 in
theorem ggX7_house_X0_copyFrom : GoodIn wsX7_house wsX0_copyFrom := goodIn_r _ [22, 23, 24, 25, 26, 27, 28, 29, 30, 31, 32, 33, 34, 202, 203, 204, 205, 206, 207, 208, 209, 210, 211, 212, 213] (by decide +kernel) (by decide +kernel)
set_option maxRecDepth 20000 in
theorem gX7_house_X0_copyFrom : GoodIn wsX7_house (wsV RX7 85 RX0 yX0_copyFrom wsX0_copyFrom) := goodIn_app (goodIn_of _ (by decide +kernel)) ggX7_house_X0_copyFrom
set_option maxRecDepth 20000 in
theorem ggX7_house_X4_begin : GoodIn wsX7_house wsX4_begin := goodIn_r _ [176, 177, 178, 179, 180, 181, 182, 175, 183, 184, 185, 142, 143, 144, 220, 221, 222, 223] (by decide +kernel) (by decide +kernel)
set_option maxRecDepth 20000 in
theorem gX7_house_X4_begin : GoodIn wsX7_house (wsV RX7 92 RX4 yX4_begin wsX4_begin) := goodIn_app (goodIn_of _ (by decide +kernel)) ggX7_house_X4_begin
set_option maxRecDepth 20000 in
theorem ggX7_mouse_X0_hasMouse : GoodIn wsX7_mouse wsX0_hasMouse := goodIn_r _ [11, 12, 34, 35, 36, 37, 38, 39, 40, 41, 42, 43, 44, 45] (by decide +kernel) (by decide +kernel)
set_option maxRecDepth 20000 in
theorem gX7_mouse_X0_hasMouse : GoodIn wsX7_mouse (wsV RX7 105 RX0 yX0_hasMouse wsX0_hasMouse) := goodIn_app (goodIn_of _ (by decide +kernel)) ggX7_mouse_X0_hasMouse
set_option maxRecDepth 20000 in
theorem ggX7_mouse_X4_lives : GoodIn wsX7_mouse wsX4_lives := goodIn_r _ [17, 18, 46, 47, 48, 49] (by decide +kernel) (by decide +kernel)
set_option maxRecDepth 20000 in
theorem gX7_mouse_X4_lives : GoodIn wsX7_mouse (wsV RX7 121 RX4 yX4_lives wsX4_lives) := goodIn_app (goodIn_of _ (by decide +kernel)) ggX7_mouse_X4_lives
set_option maxRecDepth 20000 in
theorem ggX7_mouse_X4_stepsOf : GoodIn wsX7_mouse wsX4_stepsOf := goodIn_r _ [22, 23, 46, 47, 48, 49] (by decide +kernel) (by decide +kernel)
set_option maxRecDepth 20000 in
theorem gX7_mouse_X4_stepsOf : GoodIn wsX7_mouse (wsV RX7 124 RX4 yX4_stepsOf wsX4_stepsOf) := goodIn_app (goodIn_of _ (by decide +kernel)) ggX7_mouse_X4_stepsOf
set_option maxRecDepth 20000 in
theorem ggX7_step_X0_hasStep : GoodIn wsX7_step wsX0_hasStep := goodIn_r _ [8, 9, 26, 27, 28, 29, 30, 31, 32, 33, 34, 35, 36, 37] (by decide +kernel) (by decide +kernel)
set_option maxRecDepth 20000 in
theorem gX7_step_X0_hasStep : GoodIn wsX7_step (wsV RX7 128 RX0 yX0_hasStep wsX0_hasStep) := goodIn_app (goodIn_of _ (by decide +kernel)) ggX7_step_X0_hasStep
set_option maxRecDepth 20000 in
theorem ggX7_step_X4_doerOf : GoodIn wsX7_step wsX4_doerOf := goodIn_r _ [14, 15, 38, 39, 40, 41] (by decide +kernel) (by decide +kernel)
set_option maxRecDepth 20000 in
theorem gX7_step_X4_doerOf : GoodIn wsX7_step (wsV RX7 134 RX4 yX4_doerOf wsX4_doerOf) := goodIn_app (goodIn_of _ (by decide +kernel)) ggX7_step_X4_doerOf
set_option maxRecDepth 20000 in
theorem ggX7_rat_X0_hasRat : GoodIn wsX7_rat wsX0_hasRat := goodIn_r _ [9, 10, 21, 22, 23, 24, 25, 26, 27, 28, 29, 30, 31, 32] (by decide +kernel) (by decide +kernel)
set_option maxRecDepth 20000 in
theorem gX7_rat_X0_hasRat : GoodIn wsX7_rat (wsV RX7 137 RX0 yX0_hasRat wsX0_hasRat) := goodIn_app (goodIn_of _ (by decide +kernel)) ggX7_rat_X0_hasRat
set_option maxRecDepth 20000 in
theorem ggX7_as_X0_hasMouse : GoodIn wsX7_as wsX0_hasMouse := goodIn_r _ [8, 9, 37, 38, 39, 40, 41, 42, 43, 44, 45, 46, 47, 48] (by decide +kernel) (by decide +kernel)
set_option maxRecDepth 20000 in
theorem gX7_as_X0_hasMouse : GoodIn wsX7_as (wsV RX7 105 RX0 yX0_hasMouse wsX0_hasMouse) := goodIn_app (goodIn_of _ (by decide +kernel)) ggX7_as_X0_hasMouse
set_option maxRecDepth 20000 in
theorem ggX7_as_X7_within : GoodIn wsX7_as wsX7_within := goodIn_r _ [13] (by decide +kernel) (by decide +kernel)
set_option maxRecDepth 20000 in
theorem gX7_as_X7_within : GoodIn wsX7_as (va_wsS RX7 69 yX7_within wsX7_within) := goodIn_app (goodIn_of _ (by decide +kernel)) ggX7_as_X7_within
set_option maxRecDepth 20000 in
theorem ggX7_as_X7_canBeTakenAs : GoodIn wsX7_as wsX7_canBeTakenAs := goodIn_r _ [16] (by decide +kernel) (by decide +kernel)
set_option maxRecDepth 20000 in
theorem gX7_as_X7_canBeTakenAs : GoodIn wsX7_as (va_wsS RX7 149 yX7_canBeTakenAs wsX7_canBeTakenAs) := goodIn_app (goodIn_of _ (by decide +kernel)) ggX7_as_X7_canBeTakenAs
set_option maxRecDepth 20000 in
theorem ggX7_as_X7_dangerOf : GoodIn wsX7_as wsX7_dangerOf := goodIn_r _ [19, 20, 21, 22, 23, 24, 25, 26] (by decide +kernel) (by decide +kernel)
set_option maxRecDepth 20000 in
theorem gX7_as_X7_dangerOf : GoodIn wsX7_as (va_wsS RX7 152 yX7_dangerOf wsX7_dangerOf) := goodIn_app (goodIn_of _ (by decide +kernel)) ggX7_as_X7_dangerOf
set_option maxRecDepth 20000 in
theorem ggX7_danger_X0_hasStep : GoodIn wsX7_danger wsX0_hasStep := goodIn_r _ [6, 7, 42, 43, 44, 45, 46, 47, 48, 49, 50, 51, 52, 53] (by decide +kernel) (by decide +kernel)
set_option maxRecDepth 20000 in
theorem gX7_danger_X0_hasStep : GoodIn wsX7_danger (wsV RX7 128 RX0 yX0_hasStep wsX0_hasStep) := goodIn_app (goodIn_of _ (by decide +kernel)) ggX7_danger_X0_hasStep
set_option maxRecDepth 20000 in
theorem ggX7_danger_X0_hasMouse : GoodIn wsX7_danger wsX0_hasMouse := goodIn_r _ [11, 12, 42, 43, 44, 45, 46, 47, 48, 49, 50, 51, 52, 53] (by decide +kernel) (by decide +kernel)
set_option maxRecDepth 20000 in
theorem gX7_danger_X0_hasMouse : GoodIn wsX7_danger (wsV RX7 105 RX0 yX0_hasMouse wsX0_hasMouse) := goodIn_app (goodIn_of _ (by decide +kernel)) ggX7_danger_X0_hasMouse
set_option maxRecDepth 20000 in
theorem ggX7_danger_X0_dangerAt : GoodIn wsX7_danger wsX0_dangerAt := goodIn_r _ [16, 17, 18, 19, 20, 3, 4, 5, 6, 7, 21, 9, 10, 11, 12, 22, 23, 24, 25, 26, 27, 28, 29, 30, 31, 42, 43, 44, 45, 46, 47, 48, 49, 50, 51, 52, 53] (by decide +kernel) (by decide +kernel)
set_option maxRecDepth 20000 in
theorem gX7_danger_X0_dangerAt : GoodIn wsX7_danger (wsV RX7 156 RX0 yX0_dangerAt wsX0_dangerAt) := goodIn_app (goodIn_of _ (by decide +kernel)) ggX7_danger_X0_dangerAt
set_option maxRecDepth 20000 in
theorem ggX7_put_X0_hasStep : GoodIn wsX7_put wsX0_hasStep := goodIn_r _ [8, 9, 58, 59, 60, 61, 62, 63, 64, 65, 66, 67, 68, 69] (by decide +kernel) (by decide +kernel)
set_option maxRecDepth 20000 in
theorem gX7_put_X0_hasStep : GoodIn wsX7_put (wsV RX7 128 RX0 yX0_hasStep wsX0_hasStep) := goodIn_app (goodIn_of _ (by decide +kernel)) ggX7_put_X0_hasStep
set_option maxRecDepth 20000 in
theorem ggX7_put_X0_hasMouse : GoodIn wsX7_put wsX0_hasMouse := goodIn_r _ [13, 14, 58, 59, 60, 61, 62, 63, 64, 65, 66, 67, 68, 69] (by decide +kernel) (by decide +kernel)
set_option maxRecDepth 20000 in
theorem gX7_put_X0_hasMouse : GoodIn wsX7_put (wsV RX7 105 RX0 yX0_hasMouse wsX0_hasMouse) := goodIn_app (goodIn_of _ (by decide +kernel)) ggX7_put_X0_hasMouse
set_option maxRecDepth 20000 in
theorem ggX7_put_X4_lives : GoodIn wsX7_put wsX4_lives := goodIn_r _ [19, 20, 70, 71, 72, 73] (by decide +kernel) (by decide +kernel)
set_option maxRecDepth 20000 in
theorem gX7_put_X4_lives : GoodIn wsX7_put (wsV RX7 121 RX4 yX4_lives wsX4_lives) := goodIn_app (goodIn_of _ (by decide +kernel)) ggX7_put_X4_lives
set_option maxRecDepth 20000 in
theorem ggX7_put_X6_remember : GoodIn wsX7_put wsX6_remember := goodIn_r _ [25, 26, 27, 28, 29, 30, 31, 32, 33, 34, 35, 36, 37, 38, 74, 75, 76, 70, 71, 72, 73] (by decide +kernel) (by decide +kernel)
set_option maxRecDepth 20000 in
theorem gX7_put_X6_remember : GoodIn wsX7_put (wsV RX7 160 RX6 yX6_remember wsX6_remember) := goodIn_app (goodIn_of _ (by decide +kernel)) ggX7_put_X6_remember
set_option maxRecDepth 20000 in
theorem ggX7_put_X4_setDoer : GoodIn wsX7_put wsX4_setDoer := goodIn_r _ [42, 43, 70, 71, 72, 73] (by decide +kernel) (by decide +kernel)
set_option maxRecDepth 20000 in
theorem gX7_put_X4_setDoer : GoodIn wsX7_put (wsV RX7 164 RX4 yX4_setDoer wsX4_setDoer) := goodIn_app (goodIn_of _ (by decide +kernel)) ggX7_put_X4_setDoer
set_option maxRecDepth 20000 in
theorem ggX7_put_X4_filledSteps : GoodIn wsX7_put wsX4_filledSteps := goodIn_r _ [47, 43, 70, 71, 72, 73] (by decide +kernel) (by decide +kernel)
set_option maxRecDepth 20000 in
theorem gX7_put_X4_filledSteps : GoodIn wsX7_put (wsV RX7 168 RX4 yX4_filledSteps wsX4_filledSteps) := goodIn_app (goodIn_of _ (by decide +kernel)) ggX7_put_X4_filledSteps
set_option maxRecDepth 20000 in
theorem ggX7_clear_X6_remember : GoodIn wsX7_clear wsX6_remember := goodIn_r _ [7, 8, 9, 10, 11, 12, 13, 14, 15, 16, 17, 18, 19, 20, 45, 46, 47, 48, 49, 50, 51] (by decide +kernel) (by decide +kernel)
set_option maxRecDepth 20000 in
theorem gX7_clear_X6_remember : GoodIn wsX7_clear (wsV RX7 160 RX6 yX6_remember wsX6_remember) := goodIn_app (goodIn_of _ (by decide +kernel)) ggX7_clear_X6_remember
set_option maxRecDepth 20000 in
theorem ggX7_clear_X4_filledSteps : GoodIn wsX7_clear wsX4_filledSteps := goodIn_r _ [25, 26, 48, 49, 50, 51] (by decide +kernel) (by decide +kernel)
set_option maxRecDepth 20000 in
theorem gX7_clear_X4_filledSteps : GoodIn wsX7_clear (wsV RX7 168 RX4 yX4_filledSteps wsX4_filledSteps) := goodIn_app (goodIn_of _ (by decide +kernel)) ggX7_clear_X4_filledSteps
set_option maxRecDepth 20000 in
theorem ggX7_clear_X4_dismiss : GoodIn wsX7_clear wsX4_dismiss := goodIn_r _ [30, 26, 31, 32, 33, 34, 48, 49, 50, 51] (by decide +kernel) (by decide +kernel)
set_option maxRecDepth 20000 in
theorem gX7_clear_X4_dismiss : GoodIn wsX7_clear (wsV RX7 171 RX4 yX4_dismiss wsX4_dismiss) := goodIn_app (goodIn_of _ (by decide +kernel)) ggX7_clear_X4_dismiss
set_option maxRecDepth 20000 in
theorem ggX7_night_X7_within : GoodIn wsX7_night wsX7_within := goodIn_r _ [10] (by decide +kernel) (by decide +kernel)
set_option maxRecDepth 20000 in
theorem gX7_night_X7_within : GoodIn wsX7_night (va_wsS RX7 69 yX7_within wsX7_within) := goodIn_app (goodIn_of _ (by decide +kernel)) ggX7_night_X7_within
set_option maxRecDepth 20000 in
theorem ggX7_night_X4_isWhole : GoodIn wsX7_night wsX4_isWhole := goodIn_r _ [15, 16, 17, 18, 14, 19, 20, 21, 22, 23, 24, 25, 91, 92, 93, 94] (by decide +kernel) (by decide +kernel)
set_option maxRecDepth 20000 in
theorem gX7_night_X4_isWhole : GoodIn wsX7_night (wsV RX7 181 RX4 yX4_isWhole wsX4_isWhole) := goodIn_app (goodIn_of _ (by decide +kernel)) ggX7_night_X4_isWhole
set_option maxRecDepth 20000 in
theorem ggX7_night_X6_remember : GoodIn wsX7_night wsX6_remember := goodIn_r _ [30, 31, 32, 33, 34, 35, 36, 37, 38, 9, 39, 5, 40, 2, 107, 108, 109, 91, 92, 93, 94] (by decide +kernel) (by decide +kernel)
set_option maxRecDepth 20000 in
theorem gX7_night_X6_remember : GoodIn wsX7_night (wsV RX7 160 RX6 yX6_remember wsX6_remember) := goodIn_app (goodIn_of _ (by decide +kernel)) ggX7_night_X6_remember
set_option maxRecDepth 20000 in
theorem ggX7_night_X7_caughtBy : GoodIn wsX7_night wsX7_caughtBy := goodIn_r _ [44, 3, 4, 1, 45, 17, 18, 14, 19, 20, 46, 47, 9, 48, 49, 50, 51, 52, 53, 54, 55, 56, 57, 58, 59, 60, 61, 62, 63, 64, 65, 66, 67, 68, 69, 70, 71, 72, 73, 74, 36, 75, 76, 35, 37, 81, 82, 83, 84, 85, 86, 87, 88, 89, 90, 95, 96, 97, 98, 99, 100, 101, 102, 103, 104, 105, 106, 91, 92, 93, 94] (by decide +kernel) (by decide +kernel)
set_option maxRecDepth 20000 in
theorem gX7_night_X7_caughtBy : GoodIn wsX7_night (wsV RX7 187 RX7 yX7_caughtBy wsX7_caughtBy) := goodIn_app (goodIn_of _ (by decide +kernel)) ggX7_night_X7_caughtBy
set_option maxRecDepth 20000 in
theorem ggX7_night_X4_lose : GoodIn wsX7_night wsX4_lose := goodIn_r _ [80, 25, 20, 21, 22, 23, 14, 24, 91, 92, 93, 94] (by decide +kernel) (by decide +kernel)
set_option maxRecDepth 20000 in
theorem gX7_night_X4_lose : GoodIn wsX7_night (wsV RX7 190 RX4 yX4_lose wsX4_lose) := goodIn_app (goodIn_of _ (by decide +kernel)) ggX7_night_X4_lose
set_option maxRecDepth 20000 in
theorem ggX7_undo_X6_restore : GoodIn wsX7_undo wsX6_restore := goodIn_r _ [8, 9, 10, 11, 12, 13, 14, 15, 16, 17, 28, 29, 30, 31, 32, 33, 34] (by decide +kernel) (by decide +kernel)
set_option maxRecDepth 20000 in
theorem gX7_undo_X6_restore : GoodIn wsX7_undo (wsV RX7 193 RX6 yX6_restore wsX6_restore) := goodIn_app (goodIn_of _ (by decide +kernel)) ggX7_undo_X6_restore
set_option maxRecDepth 20000 in
theorem ggX7_keep_X7_within : GoodIn wsX7_keep wsX7_within := goodIn_r _ [8] (by decide +kernel) (by decide +kernel)
set_option maxRecDepth 20000 in
theorem gX7_keep_X7_within : GoodIn wsX7_keep (va_wsS RX7 69 yX7_within wsX7_within) := goodIn_app (goodIn_of _ (by decide +kernel)) ggX7_keep_X7_within
set_option maxRecDepth 20000 in
theorem ggX7_keep_X7_copyTeam : GoodIn wsX7_keep wsX7_copyTeam := goodIn_r _ [11, 4, 12, 13, 24, 25, 26, 27] (by decide +kernel) (by decide +kernel)
set_option maxRecDepth 20000 in
theorem gX7_keep_X7_copyTeam : GoodIn wsX7_keep (va_wsS RX7 197 yX7_copyTeam wsX7_copyTeam) := goodIn_app (goodIn_of _ (by decide +kernel)) ggX7_keep_X7_copyTeam
set_option maxRecDepth 20000 in
theorem ggX7_back_X7_within : GoodIn wsX7_back wsX7_within := goodIn_r _ [10] (by decide +kernel) (by decide +kernel)
set_option maxRecDepth 20000 in
theorem gX7_back_X7_within : GoodIn wsX7_back (va_wsS RX7 69 yX7_within wsX7_within) := goodIn_app (goodIn_of _ (by decide +kernel)) ggX7_back_X7_within
set_option maxRecDepth 20000 in
theorem ggX7_back_X7_copyTeam : GoodIn wsX7_back wsX7_copyTeam := goodIn_r _ [13, 6, 14, 15, 29, 30, 31, 32] (by decide +kernel) (by decide +kernel)
set_option maxRecDepth 20000 in
theorem gX7_back_X7_copyTeam : GoodIn wsX7_back (va_wsS RX7 197 yX7_copyTeam wsX7_copyTeam) := goodIn_app (goodIn_of _ (by decide +kernel)) ggX7_back_X7_copyTeam
set_option maxRecDepth 20000 in
theorem ggX7_through_X7_isPart : GoodIn wsX7_through wsX7_isPart := goodIn_r _ [7, 8, 9, 6, 10] (by decide +kernel) (by decide +kernel)
set_option maxRecDepth 20000 in
theorem gX7_through_X7_isPart : GoodIn wsX7_through (va_wsS RX7 201 yX7_isPart wsX7_isPart) := goodIn_app (goodIn_of _ (by decide +kernel)) ggX7_through_X7_isPart
set_option maxRecDepth 20000 in
theorem ggX7_through_X4_isWhole : GoodIn wsX7_through wsX4_isWhole := goodIn_r _ [15, 16, 17, 18, 14, 19, 20, 21, 22, 23, 24, 25, 92, 93, 94, 95] (by decide +kernel) (by decide +kernel)
set_option maxRecDepth 20000 in
theorem gX7_through_X4_isWhole : GoodIn wsX7_through (wsV RX7 181 RX4 yX4_isWhole wsX4_isWhole) := goodIn_app (goodIn_of _ (by decide +kernel)) ggX7_through_X4_isWhole
set_option maxRecDepth 20000 in
theorem ggX7_through_X7_comeUpTo : GoodIn wsX7_through wsX7_comeUpTo := goodIn_r _ [29, 2, 1, 30, 17, 18, 14, 19, 20, 31, 32, 33, 34, 35, 36, 37, 38, 39, 40, 41, 42, 43, 44, 45, 46, 47, 48, 49, 6, 50, 51, 52, 53, 54, 55, 56, 57, 70, 71, 72, 73, 74, 75, 76, 77, 78, 79, 92, 93, 94, 95, 80, 81, 82, 83, 84, 85, 86, 87, 88, 89, 90, 91] (by decide +kernel) (by decide +kernel)
set_option maxRecDepth 20000 in
theorem gX7_through_X7_comeUpTo : GoodIn wsX7_through (wsV RX7 204 RX7 yX7_comeUpTo wsX7_comeUpTo) := goodIn_app (goodIn_of _ (by decide +kernel)) ggX7_through_X7_comeUpTo
set_option maxRecDepth 20000 in
theorem ggX7_through_X7_tenTo : GoodIn wsX7_through wsX7_tenTo := goodIn_r _ [60, 61, 62, 6, 63] (by decide +kernel) (by decide +kernel)
set_option maxRecDepth 20000 in
theorem gX7_through_X7_tenTo : GoodIn wsX7_through (va_wsS RX7 208 yX7_tenTo wsX7_tenTo) := goodIn_app (goodIn_of _ (by decide +kernel)) ggX7_through_X7_tenTo
set_option maxRecDepth 20000 in
theorem ggX7_through_X7_partOf : GoodIn wsX7_through wsX7_partOf := goodIn_r _ [66, 67, 68, 6, 69] (by decide +kernel) (by decide +kernel)
set_option maxRecDepth 20000 in
theorem gX7_through_X7_partOf : GoodIn wsX7_through (va_wsS RX7 211 yX7_partOf wsX7_partOf) := goodIn_app (goodIn_of _ (by decide +kernel)) ggX7_through_X7_partOf
set_option maxRecDepth 20000 in
theorem ggX7_fails_X0_hasStep : GoodIn wsX7_fails wsX0_hasStep := goodIn_r _ [8, 9, 85, 86, 87, 88, 89, 90, 91, 92, 93, 94, 95, 96] (by decide +kernel) (by decide +kernel)
set_option maxRecDepth 20000 in
theorem gX7_fails_X0_hasStep : GoodIn wsX7_fails (wsV RX7 128 RX0 yX0_hasStep wsX0_hasStep) := goodIn_app (goodIn_of _ (by decide +kernel)) ggX7_fails_X0_hasStep
set_option maxRecDepth 20000 in
theorem ggX7_fails_X7_isPart : GoodIn wsX7_fails wsX7_isPart := goodIn_r _ [13, 14, 15, 12, 16] (by decide +kernel) (by decide +kernel)
set_option maxRecDepth 20000 in
theorem gX7_fails_X7_isPart : GoodIn wsX7_fails (va_wsS RX7 201 yX7_isPart wsX7_isPart) := goodIn_app (goodIn_of _ (by decide +kernel)) ggX7_fails_X7_isPart
set_option maxRecDepth 20000 in
theorem ggX7_fails_X4_isWhole : GoodIn wsX7_fails wsX4_isWhole := goodIn_r _ [21, 22, 23, 24, 20, 25, 26, 27, 28, 29, 30, 31, 97, 98, 99, 100] (by decide +kernel) (by decide +kernel)
set_option maxRecDepth 20000 in
theorem gX7_fails_X4_isWhole : GoodIn wsX7_fails (wsV RX7 181 RX4 yX4_isWhole wsX4_isWhole) := goodIn_app (goodIn_of _ (by decide +kernel)) ggX7_fails_X4_isWhole
set_option maxRecDepth 20000 in
theorem ggX7_fails_X7_caughtAt : GoodIn wsX7_fails wsX7_caughtAt := goodIn_r _ [35, 1, 2, 36, 37, 38, 12, 39, 40, 23, 24, 20, 25, 26, 41, 42, 43, 7, 44, 45, 46, 47, 48, 5, 6, 8, 9, 49, 50, 51, 52, 53, 54, 55, 56, 57, 58, 59, 60, 61, 62, 75, 76, 77, 78, 79, 80, 81, 82, 83, 84, 97, 98, 99, 100, 85, 86, 87, 88, 89, 90, 91, 92, 93, 94, 95, 96] (by decide +kernel) (by decide +kernel)
set_option maxRecDepth 20000 in
theorem gX7_fails_X7_caughtAt : GoodIn wsX7_fails (wsV RX7 215 RX7 yX7_caughtAt wsX7_caughtAt) := goodIn_app (goodIn_of _ (by decide +kernel)) ggX7_fails_X7_caughtAt
set_option maxRecDepth 20000 in
theorem ggX7_fails_X7_tenTo : GoodIn wsX7_fails wsX7_tenTo := goodIn_r _ [65, 66, 67, 12, 68] (by decide +kernel) (by decide +kernel)
set_option maxRecDepth 20000 in
theorem gX7_fails_X7_tenTo : GoodIn wsX7_fails (va_wsS RX7 208 yX7_tenTo wsX7_tenTo) := goodIn_app (goodIn_of _ (by decide +kernel)) ggX7_fails_X7_tenTo
set_option maxRecDepth 20000 in
theorem ggX7_fails_X7_partOf : GoodIn wsX7_fails wsX7_partOf := goodIn_r _ [71, 72, 73, 12, 74] (by decide +kernel) (by decide +kernel)
set_option maxRecDepth 20000 in
theorem gX7_fails_X7_partOf : GoodIn wsX7_fails (va_wsS RX7 211 yX7_partOf wsX7_partOf) := goodIn_app (goodIn_of _ (by decide +kernel)) ggX7_fails_X7_partOf
set_option maxRecDepth 20000 in
theorem ggX7_loss_X7_isPart : GoodIn wsX7_loss wsX7_isPart := goodIn_r _ [8, 9, 10, 7, 11] (by decide +kernel) (by decide +kernel)
set_option maxRecDepth 20000 in
theorem gX7_loss_X7_isPart : GoodIn wsX7_loss (va_wsS RX7 201 yX7_isPart wsX7_isPart) := goodIn_app (goodIn_of _ (by decide +kernel)) ggX7_loss_X7_isPart
set_option maxRecDepth 20000 in
theorem ggX7_loss_X4_isWhole : GoodIn wsX7_loss wsX4_isWhole := goodIn_r _ [16, 17, 18, 19, 15, 20, 21, 22, 23, 24, 25, 26, 102, 103, 104, 105] (by decide +kernel) (by decide +kernel)
set_option maxRecDepth 20000 in
theorem gX7_loss_X4_isWhole : GoodIn wsX7_loss (wsV RX7 181 RX4 yX4_isWhole wsX4_isWhole) := goodIn_app (goodIn_of _ (by decide +kernel)) ggX7_loss_X4_isWhole
set_option maxRecDepth 20000 in
theorem ggX7_loss_X4_doerOf : GoodIn wsX7_loss wsX4_doerOf := goodIn_r _ [20, 21, 102, 103, 104, 105] (by decide +kernel) (by decide +kernel)
set_option maxRecDepth 20000 in
theorem gX7_loss_X4_doerOf : GoodIn wsX7_loss (wsV RX7 134 RX4 yX4_doerOf wsX4_doerOf) := goodIn_app (goodIn_of _ (by decide +kernel)) ggX7_loss_X4_doerOf
set_option maxRecDepth 20000 in
theorem ggX7_loss_X0_fearOf : GoodIn wsX7_loss wsX0_fearOf := goodIn_r _ [32, 33, 34, 35, 36, 31, 37, 38, 90, 91, 92, 93, 94, 95, 96, 97, 98, 99, 100, 101] (by decide +kernel) (by decide +kernel)
set_option maxRecDepth 20000 in
theorem gX7_loss_X0_fearOf : GoodIn wsX7_loss (wsV RX7 220 RX0 yX0_fearOf wsX0_fearOf) := goodIn_app (goodIn_of _ (by decide +kernel)) ggX7_loss_X0_fearOf
set_option maxRecDepth 20000 in
theorem ggX7_loss_X7_caughtAt : GoodIn wsX7_loss wsX7_caughtAt := goodIn_r _ [42, 2, 1, 43, 44, 45, 7, 46, 27, 18, 19, 15, 20, 21, 47, 48, 49, 31, 50, 51, 52, 53, 54, 55, 56, 57, 58, 34, 35, 36, 37, 38, 59, 60, 61, 62, 63, 64, 65, 66, 67, 80, 81, 82, 83, 84, 85, 86, 87, 88, 89, 102, 103, 104, 105, 90, 91, 92, 93, 94, 95, 96, 97, 98, 99, 100, 101] (by decide +kernel) (by decide +kernel)
set_option maxRecDepth 20000 in
theorem gX7_loss_X7_caughtAt : GoodIn wsX7_loss (wsV RX7 215 RX7 yX7_caughtAt wsX7_caughtAt) := goodIn_app (goodIn_of _ (by decide +kernel)) ggX7_loss_X7_caughtAt
set_option maxRecDepth 20000 in
theorem ggX7_loss_X7_tenTo : GoodIn wsX7_loss wsX7_tenTo := goodIn_r _ [70, 71, 72, 7, 73] (by decide +kernel) (by decide +kernel)
set_option maxRecDepth 20000 in
theorem gX7_loss_X7_tenTo : GoodIn wsX7_loss (va_wsS RX7 208 yX7_tenTo wsX7_tenTo) := goodIn_app (goodIn_of _ (by decide +kernel)) ggX7_loss_X7_tenTo
set_option maxRecDepth 20000 in
theorem ggX7_loss_X7_partOf : GoodIn wsX7_loss wsX7_partOf := goodIn_r _ [76, 77, 78, 7, 79] (by decide +kernel) (by decide +kernel)
set_option maxRecDepth 20000 in
theorem gX7_loss_X7_partOf : GoodIn wsX7_loss (va_wsS RX7 211 yX7_partOf wsX7_partOf) := goodIn_app (goodIn_of _ (by decide +kernel)) ggX7_loss_X7_partOf
set_option maxRecDepth 20000 in
theorem ggX7_best_X7_isPart : GoodIn wsX7_best wsX7_isPart := goodIn_r _ [10, 11, 12, 9, 13] (by decide +kernel) (by decide +kernel)
set_option maxRecDepth 20000 in
theorem gX7_best_X7_isPart : GoodIn wsX7_best (va_wsS RX7 201 yX7_isPart wsX7_isPart) := goodIn_app (goodIn_of _ (by decide +kernel)) ggX7_best_X7_isPart
set_option maxRecDepth 20000 in
theorem ggX7_best_X2_run : GoodIn wsX7_best wsX2_run := goodIn_r _ [18, 19, 20, 21, 22, 23, 24, 25, 26, 27, 28, 29, 30, 31, 32, 33, 34, 35, 36, 17, 37, 38, 39, 40, 41, 42, 43, 44, 45, 46, 47, 48, 49, 50, 51, 52, 53, 54, 9, 55, 56, 57, 58, 59, 60, 61, 62, 63, 64, 65, 66, 67, 68, 69, 70, 71, 72, 73, 74, 75, 76, 77, 78, 79, 80, 102, 103, 104, 105, 106, 107, 108, 109, 110, 111, 112, 113, 114, 115, 116, 117] (by decide +kernel) (by decide +kernel)
set_option maxRecDepth 20000 in
theorem gX7_best_X2_run : GoodIn wsX7_best (wsV RX7 226 RX2 yX2_run wsX2_run) := goodIn_app (goodIn_of _ (by decide +kernel)) ggX7_best_X2_run
set_option maxRecDepth 20000 in
theorem ggX7_best_X7_tenTo : GoodIn wsX7_best wsX7_tenTo := goodIn_r _ [55, 56, 57, 9, 58] (by decide +kernel) (by decide +kernel)
set_option maxRecDepth 20000 in
theorem gX7_best_X7_tenTo : GoodIn wsX7_best (va_wsS RX7 208 yX7_tenTo wsX7_tenTo) := goodIn_app (goodIn_of _ (by decide +kernel)) ggX7_best_X7_tenTo
set_option maxRecDepth 20000 in
theorem ggX7_best_X7_partOf : GoodIn wsX7_best wsX7_partOf := goodIn_r _ [84, 85, 86, 9, 87] (by decide +kernel) (by decide +kernel)
set_option maxRecDepth 20000 in
theorem gX7_best_X7_partOf : GoodIn wsX7_best (va_wsS RX7 211 yX7_partOf wsX7_partOf) := goodIn_app (goodIn_of _ (by decide +kernel)) ggX7_best_X7_partOf
set_option maxRecDepth 20000 in
theorem ggX7_bestOf_X0_hasStep : GoodIn wsX7_bestOf wsX0_hasStep := goodIn_r _ [10, 11, 93, 94, 95, 96, 97, 98, 99, 100, 101, 102, 103, 104] (by decide +kernel) (by decide +kernel)
set_option maxRecDepth 20000 in
theorem gX7_bestOf_X0_hasStep : GoodIn wsX7_bestOf (wsV RX7 128 RX0 yX0_hasStep wsX0_hasStep) := goodIn_app (goodIn_of _ (by decide +kernel)) ggX7_bestOf_X0_hasStep
set_option maxRecDepth 20000 in
theorem ggX7_bestOf_X2_run : GoodIn wsX7_bestOf wsX2_run := goodIn_r _ [16, 17, 18, 19, 20, 21, 22, 23, 24, 25, 26, 27, 28, 29, 30, 31, 32, 33, 34, 15, 35, 36, 37, 38, 7, 8, 9, 10, 11, 39, 40, 41, 42, 43, 44, 45, 46, 47, 48, 49, 50, 51, 52, 53, 54, 55, 56, 57, 58, 59, 60, 61, 62, 63, 64, 65, 66, 67, 68, 69, 70, 71, 72, 73, 74, 89, 90, 91, 92, 93, 94, 95, 96, 97, 98, 99, 100, 101, 102, 103, 104] (by decide +kernel) (by decide +kernel)
set_option maxRecDepth 20000 in
theorem gX7_bestOf_X2_run : GoodIn wsX7_bestOf (wsV RX7 226 RX2 yX2_run wsX2_run) := goodIn_app (goodIn_of _ (by decide +kernel)) ggX7_bestOf_X2_run
set_option maxRecDepth 20000 in
theorem ggX7_drawn_X0_hasMouse : GoodIn wsX7_drawn wsX0_hasMouse := goodIn_r _ [7, 8, 44, 45, 46, 47, 48, 49, 50, 51, 52, 53, 54, 55] (by decide +kernel) (by decide +kernel)
set_option maxRecDepth 20000 in
theorem gX7_drawn_X0_hasMouse : GoodIn wsX7_drawn (wsV RX7 105 RX0 yX0_hasMouse wsX0_hasMouse) := goodIn_app (goodIn_of _ (by decide +kernel)) ggX7_drawn_X0_hasMouse
set_option maxRecDepth 20000 in
theorem ggX7_drawn_X7_isPart : GoodIn wsX7_drawn wsX7_isPart := goodIn_r _ [12, 13, 14, 11, 15] (by decide +kernel) (by decide +kernel)
set_option maxRecDepth 20000 in
theorem gX7_drawn_X7_isPart : GoodIn wsX7_drawn (va_wsS RX7 201 yX7_isPart wsX7_isPart) := goodIn_app (goodIn_of _ (by decide +kernel)) ggX7_drawn_X7_isPart
set_option maxRecDepth 20000 in
theorem ggX7_drawn_X7_ticketsInLot : GoodIn wsX7_drawn wsX7_ticketsInLot := goodIn_r _ [19, 1, 20, 21, 3, 4, 5, 6, 7, 8, 22, 23, 24, 25, 26, 27, 34, 35, 36, 37, 38, 39, 40, 41, 42, 43, 44, 45, 46, 47, 48, 49, 50, 51, 52, 53, 54, 55, 56, 57, 58, 59] (by decide +kernel) (by decide +kernel)
set_option maxRecDepth 20000 in
theorem gX7_drawn_X7_ticketsInLot : GoodIn wsX7_drawn (wsV RX7 237 RX7 yX7_ticketsInLot wsX7_ticketsInLot) := goodIn_app (goodIn_of _ (by decide +kernel)) ggX7_drawn_X7_ticketsInLot
set_option maxRecDepth 20000 in
theorem ggX7_drawn_X7_partOf : GoodIn wsX7_drawn wsX7_partOf := goodIn_r _ [30, 31, 32, 11, 33] (by decide +kernel) (by decide +kernel)
set_option maxRecDepth 20000 in
theorem gX7_drawn_X7_partOf : GoodIn wsX7_drawn (va_wsS RX7 211 yX7_partOf wsX7_partOf) := goodIn_app (goodIn_of _ (by decide +kernel)) ggX7_drawn_X7_partOf
set_option maxRecDepth 20000 in
theorem ggX7_alone_X0_hasMouse : GoodIn wsX7_alone wsX0_hasMouse := goodIn_r _ [7, 8, 65, 66, 67, 68, 69, 70, 71, 72, 73, 74, 75, 76] (by decide +kernel) (by decide +kernel)
set_option maxRecDepth 20000 in
theorem gX7_alone_X0_hasMouse : GoodIn wsX7_alone (wsV RX7 105 RX0 yX0_hasMouse wsX0_hasMouse) := goodIn_app (goodIn_of _ (by decide +kernel)) ggX7_alone_X0_hasMouse
set_option maxRecDepth 20000 in
theorem ggX7_alone_X7_isPart : GoodIn wsX7_alone wsX7_isPart := goodIn_r _ [12, 13, 14, 11, 15] (by decide +kernel) (by decide +kernel)
set_option maxRecDepth 20000 in
theorem gX7_alone_X7_isPart : GoodIn wsX7_alone (va_wsS RX7 201 yX7_isPart wsX7_isPart) := goodIn_app (goodIn_of _ (by decide +kernel)) ggX7_alone_X7_isPart
set_option maxRecDepth 20000 in
theorem ggX7_alone_X0_aloneAbove : GoodIn wsX7_alone wsX0_aloneAbove := goodIn_r _ [19, 20, 21, 22, 23, 24, 6, 25, 26, 27, 28, 29, 30, 31, 32, 33, 4, 5, 7, 8, 34, 11, 35, 36, 37, 38, 39, 40, 41, 42, 65, 66, 67, 68, 69, 70, 71, 72, 73, 74, 75, 76] (by decide +kernel) (by decide +kernel)
set_option maxRecDepth 20000 in
theorem gX7_alone_X0_aloneAbove : GoodIn wsX7_alone (wsV RX7 240 RX0 yX0_aloneAbove wsX0_aloneAbove) := goodIn_app (goodIn_of _ (by decide +kernel)) ggX7_alone_X0_aloneAbove
set_option maxRecDepth 20000 in
theorem ggX7_alone_X7_tenTo : GoodIn wsX7_alone wsX7_tenTo := goodIn_r _ [45, 46, 47, 11, 48] (by decide +kernel) (by decide +kernel)
set_option maxRecDepth 20000 in
theorem gX7_alone_X7_tenTo : GoodIn wsX7_alone (va_wsS RX7 208 yX7_tenTo wsX7_tenTo) := goodIn_app (goodIn_of _ (by decide +kernel)) ggX7_alone_X7_tenTo
set_option maxRecDepth 20000 in
theorem ggX7_alone_X7_partOf : GoodIn wsX7_alone wsX7_partOf := goodIn_r _ [51, 52, 53, 11, 54] (by decide +kernel) (by decide +kernel)
set_option maxRecDepth 20000 in
theorem gX7_alone_X7_partOf : GoodIn wsX7_alone (va_wsS RX7 211 yX7_partOf wsX7_partOf) := goodIn_app (goodIn_of _ (by decide +kernel)) ggX7_alone_X7_partOf
set_option maxRecDepth 20000 in
theorem ggX7_dread_X0_hasMouse : GoodIn wsX7_dread wsX0_hasMouse := goodIn_r _ [7, 8, 74, 75, 76, 77, 78, 79, 80, 81, 82, 83, 84, 85] (by decide +kernel) (by decide +kernel)
set_option maxRecDepth 20000 in
theorem gX7_dread_X0_hasMouse : GoodIn wsX7_dread (wsV RX7 105 RX0 yX0_hasMouse wsX0_hasMouse) := goodIn_app (goodIn_of _ (by decide +kernel)) ggX7_dread_X0_hasMouse
set_option maxRecDepth 20000 in
theorem ggX7_dread_X7_isPart : GoodIn wsX7_dread wsX7_isPart := goodIn_r _ [12, 13, 14, 11, 15] (by decide +kernel) (by decide +kernel)
set_option maxRecDepth 20000 in
theorem gX7_dread_X7_isPart : GoodIn wsX7_dread (va_wsS RX7 201 yX7_isPart wsX7_isPart) := goodIn_app (goodIn_of _ (by decide +kernel)) ggX7_dread_X7_isPart
set_option maxRecDepth 20000 in
theorem ggX7_dread_X0_dreadAbove : GoodIn wsX7_dread wsX0_dreadAbove := goodIn_r _ [19, 20, 21, 22, 6, 23, 24, 25, 4, 5, 7, 8, 26, 27, 28, 29, 30, 31, 32, 33, 34, 35, 36, 37, 38, 39, 40, 41, 42, 43, 11, 44, 45, 46, 47, 48, 49, 50, 51, 74, 75, 76, 77, 78, 79, 80, 81, 82, 83, 84, 85] (by decide +kernel) (by decide +kernel)
set_option maxRecDepth 20000 in
theorem gX7_dread_X0_dreadAbove : GoodIn wsX7_dread (wsV RX7 243 RX0 yX0_dreadAbove wsX0_dreadAbove) := goodIn_app (goodIn_of _ (by decide +kernel)) ggX7_dread_X0_dreadAbove
set_option maxRecDepth 20000 in
theorem ggX7_dread_X7_tenTo : GoodIn wsX7_dread wsX7_tenTo := goodIn_r _ [54, 55, 56, 11, 57] (by decide +kernel) (by decide +kernel)
set_option maxRecDepth 20000 in
theorem gX7_dread_X7_tenTo : GoodIn wsX7_dread (va_wsS RX7 208 yX7_tenTo wsX7_tenTo) := goodIn_app (goodIn_of _ (by decide +kernel)) ggX7_dread_X7_tenTo
set_option maxRecDepth 20000 in
theorem ggX7_dread_X7_partOf : GoodIn wsX7_dread wsX7_partOf := goodIn_r _ [60, 61, 62, 11, 63] (by decide +kernel) (by decide +kernel)
set_option maxRecDepth 20000 in
theorem gX7_dread_X7_partOf : GoodIn wsX7_dread (va_wsS RX7 211 yX7_partOf wsX7_partOf) := goodIn_app (goodIn_of _ (by decide +kernel)) ggX7_dread_X7_partOf
set_option maxRecDepth 20000 in
theorem ggX7_hires_X0_hasMouse : GoodIn wsX7_hires wsX0_hasMouse := goodIn_r _ [7, 8, 67, 68, 69, 70, 71, 72, 73, 74, 75, 76, 77, 78] (by decide +kernel) (by decide +kernel)
set_option maxRecDepth 20000 in
theorem gX7_hires_X0_hasMouse : GoodIn wsX7_hires (wsV RX7 105 RX0 yX0_hasMouse wsX0_hasMouse) := goodIn_app (goodIn_of _ (by decide +kernel)) ggX7_hires_X0_hasMouse
set_option maxRecDepth 20000 in
theorem ggX7_hires_X4_lives : GoodIn wsX7_hires wsX4_lives := goodIn_r _ [13, 14, 79, 80, 81, 82] (by decide +kernel) (by decide +kernel)
set_option maxRecDepth 20000 in
theorem gX7_hires_X4_lives : GoodIn wsX7_hires (wsV RX7 121 RX4 yX4_lives wsX4_lives) := goodIn_app (goodIn_of _ (by decide +kernel)) ggX7_hires_X4_lives
set_option maxRecDepth 20000 in
theorem ggX7_hires_X7_leastAfraid : GoodIn wsX7_hires wsX7_leastAfraid := goodIn_r _ [19, 1, 20, 2, 9, 10, 11, 12, 13, 14, 21, 22, 23, 6, 24, 25, 26, 27, 28, 29, 30, 4, 5, 7, 8, 31, 32, 33, 34, 35, 36, 37, 38, 39, 40, 41, 42, 43, 44, 45, 46, 47, 48, 18, 49, 50, 51, 52, 53, 54, 55, 56, 57, 58, 59, 60, 61, 62, 63, 64, 65, 66, 67, 68, 69, 70, 71, 72, 73, 74, 75, 76, 77, 78, 79, 80, 81, 82] (by decide +kernel) (by decide +kernel)
set_option maxRecDepth 20000 in
theorem gX7_hires_X7_leastAfraid : GoodIn wsX7_hires (wsV RX7 246 RX7 yX7_leastAfraid wsX7_leastAfraid) := goodIn_app (goodIn_of _ (by decide +kernel)) ggX7_hires_X7_leastAfraid
set_option maxRecDepth 20000 in
theorem ggX7_hires_X0_dreadAbove : GoodIn wsX7_hires wsX0_dreadAbove := goodIn_r _ [24, 25, 26, 27, 6, 28, 29, 30, 4, 5, 7, 8, 31, 32, 33, 34, 35, 36, 37, 38, 39, 40, 41, 42, 43, 44, 45, 46, 47, 48, 18, 49, 50, 51, 52, 53, 54, 55, 56, 67, 68, 69, 70, 71, 72, 73, 74, 75, 76, 77, 78] (by decide +kernel) (by decide +kernel)
set_option maxRecDepth 20000 in
theorem gX7_hires_X0_dreadAbove : GoodIn wsX7_hires (wsV RX7 243 RX0 yX0_dreadAbove wsX0_dreadAbove) := goodIn_app (goodIn_of _ (by decide +kernel)) ggX7_hires_X0_dreadAbove
set_option maxRecDepth 20000 in
theorem ggX7_rests_X7_within : GoodIn wsX7_rests wsX7_within := goodIn_r _ [8] (by decide +kernel) (by decide +kernel)
set_option maxRecDepth 20000 in
theorem gX7_rests_X7_within : GoodIn wsX7_rests (va_wsS RX7 69 yX7_within wsX7_within) := goodIn_app (goodIn_of _ (by decide +kernel)) ggX7_rests_X7_within
set_option maxRecDepth 20000 in
theorem ggX7_rests_X1_weigh : GoodIn wsX7_rests wsX1_weigh := goodIn_r _ [13, 14, 15, 16, 17, 18, 19, 20, 21, 22, 7, 23, 24, 25, 26, 27, 28, 29, 30, 31, 32, 33, 34, 35, 36, 37, 38, 39, 40, 41, 42, 43, 44, 45, 46, 47, 48, 49, 50, 51, 52, 53, 54, 55, 56, 57, 58, 59, 60, 61, 62, 63, 64, 65, 66, 67, 101, 102, 103, 104, 105, 106, 107, 108, 109, 110, 111, 112, 113, 114, 115, 116, 117] (by decide +kernel) (by decide +kernel)
set_option maxRecDepth 20000 in
theorem gX7_rests_X1_weigh : GoodIn wsX7_rests (wsV RX7 249 RX1 yX1_weigh wsX1_weigh) := goodIn_app (goodIn_of _ (by decide +kernel)) ggX7_rests_X1_weigh
set_option maxRecDepth 20000 in
theorem ggX7_rests_X1_howManyRest : GoodIn wsX7_rests wsX1_howManyRest := goodIn_r _ [71, 72, 73, 74, 12, 75, 14, 18, 17, 15, 16, 76, 77, 78, 79, 80, 81, 82, 101, 102, 103, 104, 105] (by decide +kernel) (by decide +kernel)
set_option maxRecDepth 20000 in
theorem gX7_rests_X1_howManyRest : GoodIn wsX7_rests (wsV RX7 253 RX1 yX1_howManyRest wsX1_howManyRest) := goodIn_app (goodIn_of _ (by decide +kernel)) ggX7_rests_X1_howManyRest
set_option maxRecDepth 20000 in
theorem ggX7_rests_X1_leastAtRest : GoodIn wsX7_rests wsX1_leastAtRest := goodIn_r _ [86, 72, 73, 74, 12, 75, 14, 18, 17, 15, 16, 76, 77, 78, 79, 80, 81, 82, 101, 102, 103, 104, 105] (by decide +kernel) (by decide +kernel)
set_option maxRecDepth 20000 in
theorem gX7_rests_X1_leastAtRest : GoodIn wsX7_rests (wsV RX7 256 RX1 yX1_leastAtRest wsX1_leastAtRest) := goodIn_app (goodIn_of _ (by decide +kernel)) ggX7_rests_X1_leastAtRest
set_option maxRecDepth 20000 in
theorem ggX7_fund_X7_leastAfraid : GoodIn wsX7_fund wsX7_leastAfraid := goodIn_r _ [8, 1, 9, 10, 11, 12, 13, 14, 15, 16, 17, 18, 19, 20, 21, 22, 23, 24, 25, 26, 27, 28, 29, 30, 31, 32, 33, 34, 35, 36, 37, 38, 39, 40, 41, 42, 43, 44, 45, 46, 47, 48, 49, 7, 50, 51, 52, 53, 54, 55, 56, 57, 64, 65, 66, 67, 68, 69, 70, 71, 72, 73, 74, 75, 76, 77, 78, 79, 80, 81, 82, 83, 84, 85, 86, 87, 88, 89] (by decide +kernel) (by decide +kernel)
set_option maxRecDepth 20000 in
theorem gX7_fund_X7_leastAfraid : GoodIn wsX7_fund (wsV RX7 246 RX7 yX7_leastAfraid wsX7_leastAfraid) := goodIn_app (goodIn_of _ (by decide +kernel)) ggX7_fund_X7_leastAfraid
set_option maxRecDepth 20000 in
theorem ggX7_fund_X7_tenTo : GoodIn wsX7_fund wsX7_tenTo := goodIn_r _ [60, 61, 62, 7, 63] (by decide +kernel) (by decide +kernel)
set_option maxRecDepth 20000 in
theorem gX7_fund_X7_tenTo : GoodIn wsX7_fund (va_wsS RX7 208 yX7_tenTo wsX7_tenTo) := goodIn_app (goodIn_of _ (by decide +kernel)) ggX7_fund_X7_tenTo
set_option maxRecDepth 20000 in
theorem ggX7_fund_X0_dreadAbove : GoodIn wsX7_fund wsX0_dreadAbove := goodIn_r _ [21, 22, 23, 24, 20, 25, 26, 27, 28, 29, 30, 31, 32, 33, 34, 35, 36, 37, 38, 39, 40, 41, 42, 43, 44, 45, 46, 47, 48, 49, 7, 50, 51, 52, 53, 54, 55, 56, 57, 74, 75, 76, 77, 78, 79, 80, 81, 82, 83, 84, 85] (by decide +kernel) (by decide +kernel)
set_option maxRecDepth 20000 in
theorem gX7_fund_X0_dreadAbove : GoodIn wsX7_fund (wsV RX7 243 RX0 yX0_dreadAbove wsX0_dreadAbove) := goodIn_app (goodIn_of _ (by decide +kernel)) ggX7_fund_X0_dreadAbove
set_option maxRecDepth 20000 in
theorem ggX7_rats_X7_within : GoodIn wsX7_rats wsX7_within := goodIn_r _ [6] (by decide +kernel) (by decide +kernel)
set_option maxRecDepth 20000 in
theorem gX7_rats_X7_within : GoodIn wsX7_rats (va_wsS RX7 69 yX7_within wsX7_within) := goodIn_app (goodIn_of _ (by decide +kernel)) ggX7_rats_X7_within
set_option maxRecDepth 20000 in
theorem ggX7_rats_X0_worthOf : GoodIn wsX7_rats wsX0_worthOf := goodIn_r _ [11, 12, 13, 14, 15, 16, 17, 18, 10, 19, 20, 31, 32, 33, 34, 35, 36, 37, 38, 39, 40, 41, 42] (by decide +kernel) (by decide +kernel)
set_option maxRecDepth 20000 in
theorem gX7_rats_X0_worthOf : GoodIn wsX7_rats (wsV RX7 265 RX0 yX0_worthOf wsX0_worthOf) := goodIn_app (goodIn_of _ (by decide +kernel)) ggX7_rats_X0_worthOf
set_option maxRecDepth 20000 in
theorem ggX7_shoe_X0_hasMouse : GoodIn wsX7_shoe wsX0_hasMouse := goodIn_r _ [15, 16, 60, 61, 62, 63, 64, 65, 66, 67, 68, 69, 70, 71] (by decide +kernel) (by decide +kernel)
set_option maxRecDepth 20000 in
theorem gX7_shoe_X0_hasMouse : GoodIn wsX7_shoe (wsV RX7 105 RX0 yX0_hasMouse wsX0_hasMouse) := goodIn_app (goodIn_of _ (by decide +kernel)) ggX7_shoe_X0_hasMouse
set_option maxRecDepth 20000 in
theorem ggX7_shoe_X0_hasStep : GoodIn wsX7_shoe wsX0_hasStep := goodIn_r _ [20, 21, 60, 61, 62, 63, 64, 65, 66, 67, 68, 69, 70, 71] (by decide +kernel) (by decide +kernel)
set_option maxRecDepth 20000 in
theorem gX7_shoe_X0_hasStep : GoodIn wsX7_shoe (wsV RX7 128 RX0 yX0_hasStep wsX0_hasStep) := goodIn_app (goodIn_of _ (by decide +kernel)) ggX7_shoe_X0_hasStep
set_option maxRecDepth 20000 in
theorem ggX7_shoe_X7_within : GoodIn wsX7_shoe wsX7_within := goodIn_r _ [25] (by decide +kernel) (by decide +kernel)
set_option maxRecDepth 20000 in
theorem gX7_shoe_X7_within : GoodIn wsX7_shoe (va_wsS RX7 69 yX7_within wsX7_within) := goodIn_app (goodIn_of _ (by decide +kernel)) ggX7_shoe_X7_within
set_option maxRecDepth 20000 in
theorem ggX7_shoe_X7_isPart : GoodIn wsX7_shoe wsX7_isPart := goodIn_r _ [28, 22, 23, 24, 25] (by decide +kernel) (by decide +kernel)
set_option maxRecDepth 20000 in
theorem gX7_shoe_X7_isPart : GoodIn wsX7_shoe (va_wsS RX7 201 yX7_isPart wsX7_isPart) := goodIn_app (goodIn_of _ (by decide +kernel)) ggX7_shoe_X7_isPart
set_option maxRecDepth 20000 in
theorem ggX7_shoe_X7_dangerOf : GoodIn wsX7_shoe wsX7_dangerOf := goodIn_r _ [31, 32, 33, 7, 34, 5, 6, 8] (by decide +kernel) (by decide +kernel)
set_option maxRecDepth 20000 in
theorem gX7_shoe_X7_dangerOf : GoodIn wsX7_shoe (va_wsS RX7 152 yX7_dangerOf wsX7_dangerOf) := goodIn_app (goodIn_of _ (by decide +kernel)) ggX7_shoe_X7_dangerOf
set_option maxRecDepth 20000 in
theorem ggX7_shoe_X7_waysToChoose : GoodIn wsX7_shoe wsX7_waysToChoose := goodIn_r _ [37] (by decide +kernel) (by decide +kernel)
set_option maxRecDepth 20000 in
theorem gX7_shoe_X7_waysToChoose : GoodIn wsX7_shoe (va_wsS RX7 277 yX7_waysToChoose wsX7_waysToChoose) := goodIn_app (goodIn_of _ (by decide +kernel)) ggX7_shoe_X7_waysToChoose
set_option maxRecDepth 20000 in
theorem ggX7_shoe_X7_power : GoodIn wsX7_shoe wsX7_power := goodIn_r _ [40] (by decide +kernel) (by decide +kernel)
set_option maxRecDepth 20000 in
theorem gX7_shoe_X7_power : GoodIn wsX7_shoe (va_wsS RX7 281 yX7_power wsX7_power) := goodIn_app (goodIn_of _ (by decide +kernel)) ggX7_shoe_X7_power
set_option maxRecDepth 20000 in
theorem ggX7_shoe_X7_tenTo : GoodIn wsX7_shoe wsX7_tenTo := goodIn_r _ [43, 38, 39, 24, 40] (by decide +kernel) (by decide +kernel)
set_option maxRecDepth 20000 in
theorem gX7_shoe_X7_tenTo : GoodIn wsX7_shoe (va_wsS RX7 208 yX7_tenTo wsX7_tenTo) := goodIn_app (goodIn_of _ (by decide +kernel)) ggX7_shoe_X7_tenTo
set_option maxRecDepth 20000 in
theorem ggX7_shoe_X7_partOf : GoodIn wsX7_shoe wsX7_partOf := goodIn_r _ [46, 47, 48, 24, 49] (by decide +kernel) (by decide +kernel)
set_option maxRecDepth 20000 in
theorem gX7_shoe_X7_partOf : GoodIn wsX7_shoe (va_wsS RX7 211 yX7_partOf wsX7_partOf) := goodIn_app (goodIn_of _ (by decide +kernel)) ggX7_shoe_X7_partOf
set_option maxRecDepth 20000 in
theorem ggX7_callOff_X7_within : GoodIn wsX7_callOff wsX7_within := goodIn_r _ [10] (by decide +kernel) (by decide +kernel)
set_option maxRecDepth 20000 in
theorem gX7_callOff_X7_within : GoodIn wsX7_callOff (va_wsS RX7 69 yX7_within wsX7_within) := goodIn_app (goodIn_of _ (by decide +kernel)) ggX7_callOff_X7_within
set_option maxRecDepth 20000 in
theorem ggX7_callOff_X7_isPart : GoodIn wsX7_callOff wsX7_isPart := goodIn_r _ [13, 7, 8, 9, 10] (by decide +kernel) (by decide +kernel)
set_option maxRecDepth 20000 in
theorem gX7_callOff_X7_isPart : GoodIn wsX7_callOff (va_wsS RX7 201 yX7_isPart wsX7_isPart) := goodIn_app (goodIn_of _ (by decide +kernel)) ggX7_callOff_X7_isPart
set_option maxRecDepth 20000 in
theorem ggX7_callOff_X7_partOf : GoodIn wsX7_callOff wsX7_partOf := goodIn_r _ [16, 17, 18, 9, 19] (by decide +kernel) (by decide +kernel)
set_option maxRecDepth 20000 in
theorem gX7_callOff_X7_partOf : GoodIn wsX7_callOff (va_wsS RX7 211 yX7_partOf wsX7_partOf) := goodIn_app (goodIn_of _ (by decide +kernel)) ggX7_callOff_X7_partOf
set_option maxRecDepth 20000 in
theorem ggX7_seen_X0_hasStep : GoodIn wsX7_seen wsX0_hasStep := goodIn_r _ [8, 9, 36, 37, 38, 39, 40, 41, 42, 43, 44, 45, 46, 47] (by decide +kernel) (by decide +kernel)
set_option maxRecDepth 20000 in
theorem gX7_seen_X0_hasStep : GoodIn wsX7_seen (wsV RX7 128 RX0 yX0_hasStep wsX0_hasStep) := goodIn_app (goodIn_of _ (by decide +kernel)) ggX7_seen_X0_hasStep
set_option maxRecDepth 20000 in
theorem ggX7_seen_X0_hasMouse : GoodIn wsX7_seen wsX0_hasMouse := goodIn_r _ [13, 14, 36, 37, 38, 39, 40, 41, 42, 43, 44, 45, 46, 47] (by decide +kernel) (by decide +kernel)
set_option maxRecDepth 20000 in
theorem gX7_seen_X0_hasMouse : GoodIn wsX7_seen (wsV RX7 105 RX0 yX0_hasMouse wsX0_hasMouse) := goodIn_app (goodIn_of _ (by decide +kernel)) ggX7_seen_X0_hasMouse
set_option maxRecDepth 20000 in
theorem ggX7_seen_X3_add : GoodIn wsX7_seen wsX3_add := goodIn_r _ [19, 20, 21, 22, 33, 34, 35] (by decide +kernel) (by decide +kernel)
set_option maxRecDepth 20000 in
theorem gX7_seen_X3_add : GoodIn wsX7_seen (wsV RX7 288 RX3 yX3_add wsX3_add) := goodIn_app (goodIn_of _ (by decide +kernel)) ggX7_seen_X3_add
set_option maxRecDepth 20000 in
theorem ggX7_teams_X7_within : GoodIn wsX7_teams wsX7_within := goodIn_r _ [6] (by decide +kernel) (by decide +kernel)
set_option maxRecDepth 20000 in
theorem gX7_teams_X7_within : GoodIn wsX7_teams (va_wsS RX7 69 yX7_within wsX7_within) := goodIn_app (goodIn_of _ (by decide +kernel)) ggX7_teams_X7_within
set_option maxRecDepth 20000 in
theorem ggX7_teams_X3_rowCount : GoodIn wsX7_teams wsX3_rowCount := goodIn_r _ [11, 12, 13, 14, 15, 10, 16, 17, 18, 19, 20, 21, 22, 23, 24, 25, 26, 27, 28, 29, 30, 31, 32, 33, 34, 35, 36, 5, 37, 38, 39, 40, 41, 42, 43, 44, 45, 46, 47, 48, 49, 50, 51, 52, 53, 54, 55, 56, 57, 58, 74, 75, 76, 77, 78, 79, 80, 81, 82, 83, 84, 85, 86, 87, 88] (by decide +kernel) (by decide +kernel)
set_option maxRecDepth 20000 in
theorem gX7_teams_X3_rowCount : GoodIn wsX7_teams (wsV RX7 291 RX3 yX3_rowCount wsX3_rowCount) := goodIn_app (goodIn_of _ (by decide +kernel)) ggX7_teams_X3_rowCount
set_option maxRecDepth 20000 in
theorem ggX7_teams_X3_inAllRows : GoodIn wsX7_teams wsX3_inAllRows := goodIn_r _ [62, 12, 63, 8, 9, 10, 11, 13, 14, 15, 16, 17, 18, 19, 20, 21, 22, 23, 24, 25, 26, 27, 28, 29, 30, 31, 32, 33, 34, 35, 36, 5, 37, 38, 39, 40, 41, 42, 43, 44, 45, 46, 47, 48, 49, 50, 51, 52, 53, 54, 55, 56, 57, 58, 74, 75, 76, 77, 78, 79, 80, 81, 82, 83, 84, 85, 86, 87, 88] (by decide +kernel) (by decide +kernel)
set_option maxRecDepth 20000 in
theorem gX7_teams_X3_inAllRows : GoodIn wsX7_teams (wsV RX7 295 RX3 yX3_inAllRows wsX3_inAllRows) := goodIn_app (goodIn_of _ (by decide +kernel)) ggX7_teams_X3_inAllRows
set_option maxRecDepth 20000 in
theorem ggX7_teamOf_X0_hasStep : GoodIn wsX7_teamOf wsX0_hasStep := goodIn_r _ [7, 8, 71, 72, 73, 74, 75, 76, 77, 78, 79, 80, 81, 82] (by decide +kernel) (by decide +kernel)
set_option maxRecDepth 20000 in
theorem gX7_teamOf_X0_hasStep : GoodIn wsX7_teamOf (wsV RX7 128 RX0 yX0_hasStep wsX0_hasStep) := goodIn_app (goodIn_of _ (by decide +kernel)) ggX7_teamOf_X0_hasStep
set_option maxRecDepth 20000 in
theorem ggX7_teamOf_X3_rowCount : GoodIn wsX7_teamOf wsX3_rowCount := goodIn_r _ [13, 14, 15, 16, 17, 12, 18, 19, 20, 21, 22, 6, 23, 24, 25, 26, 27, 4, 5, 7, 8, 28, 29, 30, 31, 32, 33, 34, 35, 36, 37, 38, 39, 40, 41, 42, 43, 44, 45, 46, 47, 48, 49, 50, 51, 52, 53, 54, 55, 56, 71, 72, 73, 74, 75, 76, 77, 78, 79, 80, 81, 82, 83, 84, 85] (by decide +kernel) (by decide +kernel)
set_option maxRecDepth 20000 in
theorem gX7_teamOf_X3_rowCount : GoodIn wsX7_teamOf (wsV RX7 291 RX3 yX3_rowCount wsX3_rowCount) := goodIn_app (goodIn_of _ (by decide +kernel)) ggX7_teamOf_X3_rowCount
set_option maxRecDepth 20000 in
theorem ggX7_teamOf_X3_possibleAt : GoodIn wsX7_teamOf wsX3_possibleAt := goodIn_r _ [18, 19, 20, 21, 22, 6, 23, 24, 25, 26, 27, 4, 5, 7, 8, 28, 29, 30, 31, 32, 33, 34, 35, 36, 37, 38, 39, 40, 41, 42, 43, 44, 45, 12, 46, 47, 48, 49, 71, 72, 73, 74, 75, 76, 77, 78, 79, 80, 81, 82, 83, 84, 85] (by decide +kernel) (by decide +kernel)
set_option maxRecDepth 20000 in
theorem gX7_teamOf_X3_possibleAt : GoodIn wsX7_teamOf (wsV RX7 298 RX3 yX3_possibleAt wsX3_possibleAt) := goodIn_app (goodIn_of _ (by decide +kernel)) ggX7_teamOf_X3_possibleAt
set_option maxRecDepth 20000 in
theorem ggX7_teamOf_X7_leastOf : GoodIn wsX7_teamOf wsX7_leastOf := goodIn_r _ [60] (by decide +kernel) (by decide +kernel)
set_option maxRecDepth 20000 in
theorem gX7_teamOf_X7_leastOf : GoodIn wsX7_teamOf (va_wsS RX7 302 yX7_leastOf wsX7_leastOf) := goodIn_app (goodIn_of _ (by decide +kernel)) ggX7_teamOf_X7_leastOf
set_option maxRecDepth 20000 in
theorem ggX7_count_X4_filledSteps : GoodIn wsX7_count wsX4_filledSteps := goodIn_r _ [20, 21, 44, 45, 46, 47] (by decide +kernel) (by decide +kernel)
set_option maxRecDepth 20000 in
theorem gX7_count_X4_filledSteps : GoodIn wsX7_count (wsV RX7 168 RX4 yX4_filledSteps wsX4_filledSteps) := goodIn_app (goodIn_of _ (by decide +kernel)) ggX7_count_X4_filledSteps
set_option maxRecDepth 20000 in
theorem ggX7_readDraft_X0_copyFrom : GoodIn wsX7_readDraft wsX0_copyFrom := goodIn_r _ [8, 9, 10, 11, 12, 13, 14, 15, 16, 17, 18, 19, 20, 168, 169, 170, 171, 172, 173, 174, 175, 176, 177, 178, 179] (by decide +kernel) (by decide +kernel)
set_option maxRecDepth 20000 in
theorem gX7_readDraft_X0_copyFrom : GoodIn wsX7_readDraft (wsV RX7 85 RX0 yX0_copyFrom wsX0_copyFrom) := goodIn_app (goodIn_of _ (by decide +kernel)) ggX7_readDraft_X0_copyFrom
set_option maxRecDepth 20000 in
theorem ggX7_readDraft_X5_readInto : GoodIn wsX7_readDraft wsX5_readInto := goodIn_r _ [25, 26, 27, 28, 29, 30, 31, 32, 24, 33, 34, 35, 36, 37, 38, 39, 40, 41, 42, 43, 44, 45, 46, 47, 48, 49, 50, 51, 52, 53, 54, 55, 56, 57, 58, 59, 60, 61, 62, 63, 64, 65, 66, 67, 68, 69, 70, 71, 72, 73, 74, 75, 76, 77, 78, 79, 80, 81, 82, 83, 84, 85, 86, 87, 88, 89, 90, 91, 92, 93, 94, 95, 96, 97, 98, 99, 100, 101, 102, 103, 104, 105, 106, 107, 108, 109, 110, 111, 112, 113, 114, 115, 116, 117, 118, 119, 120, 121, 122, 123, 124, 125, 7, 126, 17, 18, 19, 127, 128, 129, 130, 131, 132, 133, 134, 135, 136, 137, 138, 139, 140, 141, 142, 143, 144, 13, 20, 145, 146, 147, 148, 149, 14, 15, 16, 150, 151, 152, 153, 154, 155, 156, 157, 9, 10, 11, 12, 180, 181, 182, 183, 184, 185, 168, 169, 170, 171, 172, 173, 174, 175, 176, 177, 178, 179] (by decide +kernel) (by decide +kernel)
set_option maxRecDepth 20000 in
theorem gX7_readDraft_X5_readInto : GoodIn wsX7_readDraft (wsV RX7 305 RX5 yX5_readInto wsX5_readInto) := goodIn_app (goodIn_of _ (by decide +kernel)) ggX7_readDraft_X5_readInto
set_option maxRecDepth 20000 in
theorem ggX7_caughtBy_X4_doerOf : GoodIn wsX7_caughtBy wsX4_doerOf := goodIn_r _ [8, 9, 67, 68, 69, 70] (by decide +kernel) (by decide +kernel)
set_option maxRecDepth 20000 in
theorem gX7_caughtBy_X4_doerOf : GoodIn wsX7_caughtBy (wsV RX7 134 RX4 yX4_doerOf wsX4_doerOf) := goodIn_app (goodIn_of _ (by decide +kernel)) ggX7_caughtBy_X4_doerOf
set_option maxRecDepth 20000 in
theorem ggX7_caughtBy_X7_drawOf : GoodIn wsX7_caughtBy wsX7_drawOf := goodIn_r _ [13, 14, 15, 16, 17] (by decide +kernel) (by decide +kernel)
set_option maxRecDepth 20000 in
theorem gX7_caughtBy_X7_drawOf : GoodIn wsX7_caughtBy (va_wsS RX7 308 yX7_drawOf wsX7_drawOf) := goodIn_app (goodIn_of _ (by decide +kernel)) ggX7_caughtBy_X7_drawOf
set_option maxRecDepth 20000 in
theorem ggX7_caughtBy_X0_dangerAt : GoodIn wsX7_caughtBy wsX0_dangerAt := goodIn_r _ [22, 23, 24, 25, 26, 27, 28, 21, 29, 30, 31, 32, 33, 34, 35, 36, 12, 37, 38, 39, 40, 41, 42, 43, 44, 55, 56, 57, 58, 59, 60, 61, 62, 63, 64, 65, 66] (by decide +kernel) (by decide +kernel)
set_option maxRecDepth 20000 in
theorem gX7_caughtBy_X0_dangerAt : GoodIn wsX7_caughtBy (wsV RX7 156 RX0 yX0_dangerAt wsX0_dangerAt) := goodIn_app (goodIn_of _ (by decide +kernel)) ggX7_caughtBy_X0_dangerAt
set_option maxRecDepth 20000 in
theorem ggX7_ticketsInLot_X0_hasMouse : GoodIn wsX7_ticketsInLot wsX0_hasMouse := goodIn_r _ [8, 9, 26, 27, 28, 29, 30, 31, 32, 33, 34, 35, 36, 37] (by decide +kernel) (by decide +kernel)
set_option maxRecDepth 20000 in
theorem gX7_ticketsInLot_X0_hasMouse : GoodIn wsX7_ticketsInLot (wsV RX7 105 RX0 yX0_hasMouse wsX0_hasMouse) := goodIn_app (goodIn_of _ (by decide +kernel)) ggX7_ticketsInLot_X0_hasMouse
set_option maxRecDepth 20000 in
theorem ggX7_ticketsInLot_X4_lives : GoodIn wsX7_ticketsInLot wsX4_lives := goodIn_r _ [14, 15, 38, 39, 40, 41] (by decide +kernel) (by decide +kernel)
set_option maxRecDepth 20000 in
theorem gX7_ticketsInLot_X4_lives : GoodIn wsX7_ticketsInLot (wsV RX7 121 RX4 yX4_lives wsX4_lives) := goodIn_app (goodIn_of _ (by decide +kernel)) ggX7_ticketsInLot_X4_lives
set_option maxRecDepth 20000 in
theorem ggX7_leastAfraid_X4_lives : GoodIn wsX7_leastAfraid wsX4_lives := goodIn_r _ [8, 9, 74, 75, 76, 77] (by decide +kernel) (by decide +kernel)
set_option maxRecDepth 20000 in
theorem gX7_leastAfraid_X4_lives : GoodIn wsX7_leastAfraid (wsV RX7 121 RX4 yX4_lives wsX4_lives) := goodIn_app (goodIn_of _ (by decide +kernel)) ggX7_leastAfraid_X4_lives
set_option maxRecDepth 20000 in
theorem ggX7_leastAfraid_X0_dreadAbove : GoodIn wsX7_leastAfraid wsX0_dreadAbove := goodIn_r _ [14, 15, 16, 17, 13, 18, 19, 20, 21, 22, 23, 24, 25, 26, 27, 28, 29, 30, 31, 32, 33, 34, 35, 36, 37, 38, 39, 40, 41, 42, 43, 44, 45, 46, 47, 48, 49, 50, 51, 62, 63, 64, 65, 66, 67, 68, 69, 70, 71, 72, 73] (by decide +kernel) (by decide +kernel)
set_option maxRecDepth 20000 in
theorem gX7_leastAfraid_X0_dreadAbove : GoodIn wsX7_leastAfraid (wsV RX7 243 RX0 yX0_dreadAbove wsX0_dreadAbove) := goodIn_app (goodIn_of _ (by decide +kernel)) ggX7_leastAfraid_X0_dreadAbove
set_option maxRecDepth 20000 in
theorem ggX7_comeUpTo_X4_doerOf : GoodIn wsX7_comeUpTo wsX4_doerOf := goodIn_r _ [7, 8, 47, 48, 49, 50] (by decide +kernel) (by decide +kernel)
set_option maxRecDepth 20000 in
theorem gX7_comeUpTo_X4_doerOf : GoodIn wsX7_comeUpTo (wsV RX7 134 RX4 yX4_doerOf wsX4_doerOf) := goodIn_app (goodIn_of _ (by decide +kernel)) ggX7_comeUpTo_X4_doerOf
set_option maxRecDepth 20000 in
theorem ggX7_comeUpTo_X0_dangerAt : GoodIn wsX7_comeUpTo wsX0_dangerAt := goodIn_r _ [13, 14, 15, 16, 17, 18, 19, 12, 20, 21, 22, 23, 24, 25, 26, 27, 28, 29, 30, 31, 32, 33, 34, 35, 36, 51, 52, 53, 54, 55, 56, 57, 58, 59, 60, 61, 62] (by decide +kernel) (by decide +kernel)
set_option maxRecDepth 20000 in
theorem gX7_comeUpTo_X0_dangerAt : GoodIn wsX7_comeUpTo (wsV RX7 156 RX0 yX0_dangerAt wsX0_dangerAt) := goodIn_app (goodIn_of _ (by decide +kernel)) ggX7_comeUpTo_X0_dangerAt
set_option maxRecDepth 20000 in
theorem ggX7_caughtAt_X7_comeUpTo : GoodIn wsX7_caughtAt wsX7_comeUpTo := goodIn_r _ [7, 1, 2, 8, 9, 10, 11, 12, 13, 14, 15, 16, 17, 18, 19, 20, 21, 22, 23, 24, 25, 26, 27, 28, 29, 30, 31, 32, 6, 33, 34, 35, 36, 37, 38, 39, 40, 41, 42, 43, 44, 45, 46, 47, 48, 49, 50, 51, 52, 53, 54, 55, 56, 57, 58, 59, 60, 61, 62, 63, 64, 65, 66] (by decide +kernel) (by decide +kernel)
set_option maxRecDepth 20000 in
theorem gX7_caughtAt_X7_comeUpTo : GoodIn wsX7_caughtAt (wsV RX7 204 RX7 yX7_comeUpTo wsX7_comeUpTo) := goodIn_app (goodIn_of _ (by decide +kernel)) ggX7_caughtAt_X7_comeUpTo
set_option maxRecDepth 20000 in
theorem ggX7_caughtAt_X4_doerOf : GoodIn wsX7_caughtAt wsX4_doerOf := goodIn_r _ [12, 13, 51, 52, 53, 54] (by decide +kernel) (by decide +kernel)
set_option maxRecDepth 20000 in
theorem gX7_caughtAt_X4_doerOf : GoodIn wsX7_caughtAt (wsV RX7 134 RX4 yX4_doerOf wsX4_doerOf) := goodIn_app (goodIn_of _ (by decide +kernel)) ggX7_caughtAt_X4_doerOf
set_option maxRecDepth 20000 in
theorem ggX7_caughtAt_X0_dangerAt : GoodIn wsX7_caughtAt wsX0_dangerAt := goodIn_r _ [18, 19, 20, 21, 22, 23, 24, 17, 25, 26, 27, 28, 29, 30, 31, 32, 6, 33, 34, 35, 36, 37, 38, 39, 40, 55, 56, 57, 58, 59, 60, 61, 62, 63, 64, 65, 66] (by decide +kernel) (by decide +kernel)
set_option maxRecDepth 20000 in
theorem gX7_caughtAt_X0_dangerAt : GoodIn wsX7_caughtAt (wsV RX7 156 RX0 yX0_dangerAt wsX0_dangerAt) := goodIn_app (goodIn_of _ (by decide +kernel)) ggX7_caughtAt_X0_dangerAt
set_option maxRecDepth 20000 in
theorem ggX7_isPart_X7_within : GoodIn wsX7_isPart wsX7_within := goodIn_r _ [4] (by decide +kernel) (by decide +kernel)
set_option maxRecDepth 20000 in
theorem gX7_isPart_X7_within : GoodIn wsX7_isPart (va_wsS RX7 69 yX7_within wsX7_within) := goodIn_app (goodIn_of _ (by decide +kernel)) ggX7_isPart_X7_within
set_option maxRecDepth 20000 in
theorem ggX7_partOf_X7_commonDivisor : GoodIn wsX7_partOf wsX7_commonDivisor := goodIn_r _ [4] (by decide +kernel) (by decide +kernel)
set_option maxRecDepth 20000 in
theorem gX7_partOf_X7_commonDivisor : GoodIn wsX7_partOf (va_wsS RX7 322 yX7_commonDivisor wsX7_commonDivisor) := goodIn_app (goodIn_of _ (by decide +kernel)) ggX7_partOf_X7_commonDivisor
set_option maxRecDepth 20000 in
theorem ggX7_tenTo_X7_power : GoodIn wsX7_tenTo wsX7_power := goodIn_r _ [4] (by decide +kernel) (by decide +kernel)
set_option maxRecDepth 20000 in
theorem gX7_tenTo_X7_power : GoodIn wsX7_tenTo (va_wsS RX7 281 yX7_power wsX7_power) := goodIn_app (goodIn_of _ (by decide +kernel)) ggX7_tenTo_X7_power
set_option maxRecDepth 20000 in
theorem ggX8_write_X8_in : GoodIn wsX8_write wsX8_in := goodIn_r _ [7] (by decide +kernel) (by decide +kernel)
set_option maxRecDepth 20000 in
theorem gX8_write_X8_in : GoodIn wsX8_write (va_wsS RX8 54 yX8_in wsX8_in) := goodIn_app (goodIn_of _ (by decide +kernel)) ggX8_write_X8_in
set_option maxRecDepth 20000 in
theorem ggX8_isWord_X8_letterAt : GoodIn wsX8_isWord wsX8_letterAt := goodIn_r _ [8, 9, 10, 11, 12, 13, 14, 15, 16, 17, 18, 19, 20, 21, 22, 23, 24, 25, 26, 27, 28, 29, 30, 31, 32, 33, 34] (by decide +kernel) (by decide +kernel)
set_option maxRecDepth 20000 in
theorem gX8_isWord_X8_letterAt : GoodIn wsX8_isWord (wsV RX8 67 RX8 yX8_letterAt wsX8_letterAt) := goodIn_app (goodIn_of _ (by decide +kernel)) ggX8_isWord_X8_letterAt
set_option maxRecDepth 20000 in
theorem ggX8_wordOf_X8_isWord : GoodIn wsX8_wordOf wsX8_isWord := goodIn_r _ [14, 15, 16, 17, 18, 19, 20, 13, 21, 22, 23, 24, 25, 26, 27, 28, 29, 30, 31, 32, 33, 34, 35, 36, 37, 38, 39, 40, 41, 42, 43, 44, 45, 46, 47] (by decide +kernel) (by decide +kernel)
set_option maxRecDepth 20000 in
theorem gX8_wordOf_X8_isWord : GoodIn wsX8_wordOf (wsV RX8 75 RX8 yX8_isWord wsX8_isWord) := goodIn_app (goodIn_of _ (by decide +kernel)) ggX8_wordOf_X8_isWord
set_option maxRecDepth 20000 in
theorem ggX8_advances_X8_letterAt : GoodIn wsX8_advances wsX8_letterAt := goodIn_r _ [10, 11, 12, 34, 35, 36, 37, 38, 39, 40, 41, 42, 43, 44, 45, 46, 47, 48, 49, 50, 51, 52, 53, 54, 55, 56, 57] (by decide +kernel) (by decide +kernel)
set_option maxRecDepth 20000 in
theorem gX8_advances_X8_letterAt : GoodIn wsX8_advances (wsV RX8 67 RX8 yX8_letterAt wsX8_letterAt) := goodIn_app (goodIn_of _ (by decide +kernel)) ggX8_advances_X8_letterAt
set_option maxRecDepth 20000 in
theorem ggX8_advances_X8_in : GoodIn wsX8_advances wsX8_in := goodIn_r _ [15] (by decide +kernel) (by decide +kernel)
set_option maxRecDepth 20000 in
theorem gX8_advances_X8_in : GoodIn wsX8_advances (va_wsS RX8 54 yX8_in wsX8_in) := goodIn_app (goodIn_of _ (by decide +kernel)) ggX8_advances_X8_in
set_option maxRecDepth 20000 in
theorem ggX8_advances_X8_wordOf : GoodIn wsX8_advances wsX8_wordOf := goodIn_r _ [19, 20, 21, 22, 23, 24, 25, 26, 27, 28, 29, 30, 31, 9, 32, 1, 2, 33, 6, 7, 8, 10, 11, 12, 34, 35, 36, 37, 38, 39, 40, 41, 42, 43, 44, 45, 46, 47, 48, 49, 50, 51, 52, 53, 54, 55, 56, 57] (by decide +kernel) (by decide +kernel)
set_option maxRecDepth 20000 in
theorem gX8_advances_X8_wordOf : GoodIn wsX8_advances (wsV RX8 98 RX8 yX8_wordOf wsX8_wordOf) := goodIn_app (goodIn_of _ (by decide +kernel)) ggX8_advances_X8_wordOf
set_option maxRecDepth 20000 in
theorem ggX8_number_X8_fails : GoodIn wsX8_number wsX8_fails := goodIn_r _ [9, 4, 10, 43, 44, 45, 46, 47, 48, 49, 50, 51, 52, 53, 54, 55, 56, 57, 58, 59, 60, 61, 62, 63, 64, 65, 66] (by decide +kernel) (by decide +kernel)
set_option maxRecDepth 20000 in
theorem gX8_number_X8_fails : GoodIn wsX8_number (wsV RX8 111 RX8 yX8_fails wsX8_fails) := goodIn_app (goodIn_of _ (by decide +kernel)) ggX8_number_X8_fails
set_option maxRecDepth 20000 in
theorem ggX8_number_X8_advances : GoodIn wsX8_number wsX8_advances := goodIn_r _ [14, 15, 10, 1, 3, 2, 16, 17, 18, 8, 19, 20, 21, 22, 23, 24, 25, 26, 27, 28, 29, 30, 31, 32, 33, 34, 35, 36, 37, 38, 39, 40, 41, 42, 43, 44, 45, 46, 47, 48, 49, 50, 51, 52, 53, 54, 55, 56, 57, 58, 59, 60, 61, 62, 63, 64, 65, 66] (by decide +kernel) (by decide +kernel)
set_option maxRecDepth 20000 in
theorem gX8_number_X8_advances : GoodIn wsX8_number (wsV RX8 114 RX8 yX8_advances wsX8_advances) := goodIn_app (goodIn_of _ (by decide +kernel)) ggX8_number_X8_advances
set_option maxRecDepth 20000 in
theorem ggX8_clause_X8_number : GoodIn wsX8_clause wsX8_number := goodIn_r _ [9, 10, 11, 12, 13, 14, 15, 16, 8, 17, 18, 19, 20, 21, 22, 23, 24, 25, 26, 27, 28, 29, 30, 31, 32, 33, 34, 35, 36, 37, 38, 39, 40, 41, 42, 43, 44, 45, 46, 47, 48, 49, 50, 51, 52, 53, 54, 55, 56, 57, 58, 59, 60, 61, 62, 63, 64, 65, 66, 67, 68, 69, 70, 71, 72, 73, 74] (by decide +kernel) (by decide +kernel)
set_option maxRecDepth 20000 in
theorem gX8_clause_X8_number : GoodIn wsX8_clause (wsV RX8 117 RX8 yX8_number wsX8_number) := goodIn_app (goodIn_of _ (by decide +kernel)) ggX8_clause_X8_number
set_option maxRecDepth 20000 in
theorem ggX8_reads_X8_drafts : GoodIn wsX8_reads wsX8_drafts := goodIn_r _ [11, 12, 13, 14, 15, 64, 65, 66, 67, 68, 69, 70, 71, 72, 73, 74, 75, 76, 77, 78, 79, 80, 81, 82, 83, 84, 85, 86, 87] (by decide +kernel) (by decide +kernel)
set_option maxRecDepth 20000 in
theorem gX8_reads_X8_drafts : GoodIn wsX8_reads (wsV RX8 120 RX8 yX8_drafts wsX8_drafts) := goodIn_app (goodIn_of _ (by decide +kernel)) ggX8_reads_X8_drafts
set_option maxRecDepth 20000 in
theorem ggX8_reads_X8_advances : GoodIn wsX8_reads wsX8_advances := goodIn_r _ [19, 2, 4, 5, 6, 20, 21, 22, 23, 10, 24, 25, 26, 27, 28, 29, 30, 31, 32, 33, 34, 35, 36, 37, 38, 39, 40, 41, 42, 43, 44, 45, 46, 47, 64, 65, 66, 67, 68, 69, 70, 71, 72, 73, 74, 75, 76, 77, 78, 79, 80, 81, 82, 83, 84, 85, 86, 87] (by decide +kernel) (by decide +kernel)
set_option maxRecDepth 20000 in
theorem gX8_reads_X8_advances : GoodIn wsX8_reads (wsV RX8 114 RX8 yX8_advances wsX8_advances) := goodIn_app (goodIn_of _ (by decide +kernel)) ggX8_reads_X8_advances
set_option maxRecDepth 20000 in
theorem ggX8_reads_X8_canStand : GoodIn wsX8_reads wsX8_canStand := goodIn_r _ [51, 15, 64, 65, 66, 67, 68, 69, 70, 71, 72, 73, 74, 75, 76, 77, 78, 79, 80, 81, 82, 83, 84, 85, 86, 87] (by decide +kernel) (by decide +kernel)
set_option maxRecDepth 20000 in
theorem gX8_reads_X8_canStand : GoodIn wsX8_reads (wsV RX8 126 RX8 yX8_canStand wsX8_canStand) := goodIn_app (goodIn_of _ (by decide +kernel)) ggX8_reads_X8_canStand
set_option maxRecDepth 20000 in
theorem ggX8_reads_X8_fails : GoodIn wsX8_reads wsX8_fails := goodIn_r _ [55, 1, 4, 64, 65, 66, 67, 68, 69, 70, 71, 72, 73, 74, 75, 76, 77, 78, 79, 80, 81, 82, 83, 84, 85, 86, 87] (by decide +kernel) (by decide +kernel)
set_option maxRecDepth 20000 in
theorem gX8_reads_X8_fails : GoodIn wsX8_reads (wsV RX8 111 RX8 yX8_fails wsX8_fails) := goodIn_app (goodIn_of _ (by decide +kernel)) ggX8_reads_X8_fails
set_option maxRecDepth 20000 in
theorem ggX8_reads_X8_clause : GoodIn wsX8_reads wsX8_clause := goodIn_r _ [59, 15, 12, 13, 14, 60, 61, 62, 10, 63, 5, 20, 6, 1, 52, 53, 54, 55, 4, 16, 17, 18, 19, 2, 21, 22, 23, 24, 25, 26, 27, 28, 29, 30, 31, 32, 33, 34, 35, 36, 37, 38, 39, 40, 41, 42, 43, 44, 45, 46, 47, 64, 65, 66, 67, 68, 69, 70, 71, 72, 73, 74, 75, 76, 77, 78, 79, 80, 81, 82, 83, 84, 85, 86, 87] (by decide +kernel) (by decide +kernel)
set_option maxRecDepth 20000 in
theorem gX8_reads_X8_clause : GoodIn wsX8_reads (wsV RX8 130 RX8 yX8_clause wsX8_clause) := goodIn_app (goodIn_of _ (by decide +kernel)) ggX8_reads_X8_clause
set_option maxRecDepth 20000 in
theorem ggX8_fault_X8_reads : GoodIn wsX8_fault wsX8_reads := goodIn_r _ [7, 2, 8, 9, 10, 11, 12, 13, 14, 15, 6, 16, 17, 18, 19, 20, 21, 22, 23, 24, 25, 26, 27, 28, 29, 30, 31, 32, 33, 34, 35, 36, 37, 38, 39, 40, 41, 42, 43, 44, 45, 46, 47, 48, 49, 50, 51, 52, 53, 54, 55, 56, 57, 58, 59, 60, 61, 62, 63, 64, 65, 66, 67, 68, 69, 70, 71, 72, 73, 74, 75, 76, 77, 78, 79, 80, 81, 82, 83, 84, 85, 86, 87, 88, 89, 90, 91, 92] (by decide +kernel) (by decide +kernel)
set_option maxRecDepth 20000 in
theorem gX8_fault_X8_reads : GoodIn wsX8_fault (wsV RX8 134 RX8 yX8_reads wsX8_reads) := goodIn_app (goodIn_of _ (by decide +kernel)) ggX8_fault_X8_reads
set_option maxRecDepth 20000 in
theorem ggX8_house_X8_reads : GoodIn wsX8_house wsX8_reads := goodIn_r _ [17, 2, 18, 12, 19, 20, 21, 22, 23, 24, 16, 25, 3, 4, 5, 6, 26, 27, 28, 29, 30, 31, 32, 33, 34, 8, 35, 36, 37, 38, 39, 40, 41, 42, 43, 44, 45, 46, 47, 48, 49, 50, 51, 52, 53, 54, 55, 56, 57, 58, 59, 60, 61, 62, 63, 64, 65, 66, 67, 68, 69, 70, 71, 72, 73, 74, 75, 76, 77, 78, 79, 80, 81, 82, 83, 84, 85, 86, 87, 88, 89, 90, 91, 92, 93, 94, 95, 96] (by decide +kernel) (by decide +kernel)
set_option maxRecDepth 20000 in
theorem gX8_house_X8_reads : GoodIn wsX8_house (wsV RX8 134 RX8 yX8_reads wsX8_reads) := goodIn_app (goodIn_of _ (by decide +kernel)) ggX8_house_X8_reads
set_option maxRecDepth 20000 in
theorem ggX8_isMouse_X8_in : GoodIn wsX8_isMouse wsX8_in := goodIn_r _ [5] (by decide +kernel) (by decide +kernel)
set_option maxRecDepth 20000 in
theorem gX8_isMouse_X8_in : GoodIn wsX8_isMouse (va_wsS RX8 54 yX8_in wsX8_in) := goodIn_app (goodIn_of _ (by decide +kernel)) ggX8_isMouse_X8_in
set_option maxRecDepth 20000 in
theorem ggX8_isStep_X8_in : GoodIn wsX8_isStep wsX8_in := goodIn_r _ [5] (by decide +kernel) (by decide +kernel)
set_option maxRecDepth 20000 in
theorem gX8_isStep_X8_in : GoodIn wsX8_isStep (va_wsS RX8 54 yX8_in wsX8_in) := goodIn_app (goodIn_of _ (by decide +kernel)) ggX8_isStep_X8_in
set_option maxRecDepth 20000 in
theorem ggX8_mouse_X8_isMouse : GoodIn wsX8_mouse wsX8_isMouse := goodIn_r _ [7, 8, 9, 10, 6, 11, 21, 22, 23, 24, 25, 26, 27, 28, 29, 30, 31, 32, 33, 34, 35, 36, 37, 38, 39, 40, 41, 42, 43, 44] (by decide +kernel) (by decide +kernel)
set_option maxRecDepth 20000 in
theorem gX8_mouse_X8_isMouse : GoodIn wsX8_mouse (wsV RX8 143 RX8 yX8_isMouse wsX8_isMouse) := goodIn_app (goodIn_of _ (by decide +kernel)) ggX8_mouse_X8_isMouse
set_option maxRecDepth 20000 in
theorem ggX8_mouse_X8_in : GoodIn wsX8_mouse wsX8_in := goodIn_r _ [11] (by decide +kernel) (by decide +kernel)
set_option maxRecDepth 20000 in
theorem gX8_mouse_X8_in : GoodIn wsX8_mouse (va_wsS RX8 54 yX8_in wsX8_in) := goodIn_app (goodIn_of _ (by decide +kernel)) ggX8_mouse_X8_in
set_option maxRecDepth 20000 in
theorem ggX8_mouse_X8_isLiving : GoodIn wsX8_mouse wsX8_isLiving := goodIn_r _ [15, 16, 21, 22, 23, 24, 25, 26, 27, 28, 29, 30, 31, 32, 33, 34, 35, 36, 37, 38, 39, 40, 41, 42, 43, 44] (by decide +kernel) (by decide +kernel)
set_option maxRecDepth 20000 in
theorem gX8_mouse_X8_isLiving : GoodIn wsX8_mouse (wsV RX8 146 RX8 yX8_isLiving wsX8_isLiving) := goodIn_app (goodIn_of _ (by decide +kernel)) ggX8_mouse_X8_isLiving
set_option maxRecDepth 20000 in
theorem ggX8_mouse_X8_stepsOf : GoodIn wsX8_mouse wsX8_stepsOf := goodIn_r _ [20, 8, 16, 21, 22, 23, 24, 25, 26, 27, 28, 29, 30, 31, 32, 33, 34, 35, 36, 37, 38, 39, 40, 41, 42, 43, 44] (by decide +kernel) (by decide +kernel)
set_option maxRecDepth 20000 in
theorem gX8_mouse_X8_stepsOf : GoodIn wsX8_mouse (wsV RX8 149 RX8 yX8_stepsOf wsX8_stepsOf) := goodIn_app (goodIn_of _ (by decide +kernel)) ggX8_mouse_X8_stepsOf
set_option maxRecDepth 20000 in
theorem ggX8_step_X8_isStep : GoodIn wsX8_step wsX8_isStep := goodIn_r _ [8, 9, 10, 11, 7, 12, 13, 14, 15, 16, 17, 18, 19, 20, 21, 22, 23, 24, 25, 26, 27, 28, 29, 30, 31, 32, 33, 34, 35, 36] (by decide +kernel) (by decide +kernel)
set_option maxRecDepth 20000 in
theorem gX8_step_X8_isStep : GoodIn wsX8_step (wsV RX8 152 RX8 yX8_isStep wsX8_isStep) := goodIn_app (goodIn_of _ (by decide +kernel)) ggX8_step_X8_isStep
set_option maxRecDepth 20000 in
theorem ggX8_step_X8_in : GoodIn wsX8_step wsX8_in := goodIn_r _ [12] (by decide +kernel) (by decide +kernel)
set_option maxRecDepth 20000 in
theorem gX8_step_X8_in : GoodIn wsX8_step (va_wsS RX8 54 yX8_in wsX8_in) := goodIn_app (goodIn_of _ (by decide +kernel)) ggX8_step_X8_in
set_option maxRecDepth 20000 in
theorem ggX8_rat_X8_in : GoodIn wsX8_rat wsX8_in := goodIn_r _ [7] (by decide +kernel) (by decide +kernel)
set_option maxRecDepth 20000 in
theorem gX8_rat_X8_in : GoodIn wsX8_rat (va_wsS RX8 54 yX8_in wsX8_in) := goodIn_app (goodIn_of _ (by decide +kernel)) ggX8_rat_X8_in
set_option maxRecDepth 20000 in
theorem ggX8_dangerTo_X8_dangerBy : GoodIn wsX8_dangerTo wsX8_dangerBy := goodIn_r _ [6] (by decide +kernel) (by decide +kernel)
set_option maxRecDepth 20000 in
theorem gX8_dangerTo_X8_dangerBy : GoodIn wsX8_dangerTo (va_wsS RX8 155 yX8_dangerBy wsX8_dangerBy) := goodIn_app (goodIn_of _ (by decide +kernel)) ggX8_dangerTo_X8_dangerBy
set_option maxRecDepth 20000 in
theorem ggX8_as_X8_isMouse : GoodIn wsX8_as wsX8_isMouse := goodIn_r _ [7, 8, 9, 10, 6, 11, 15, 16, 17, 18, 19, 20, 21, 22, 23, 24, 25, 26, 27, 28, 29, 30, 31, 32, 33, 34, 35, 36, 37, 38] (by decide +kernel) (by decide +kernel)
set_option maxRecDepth 20000 in
theorem gX8_as_X8_isMouse : GoodIn wsX8_as (wsV RX8 143 RX8 yX8_isMouse wsX8_isMouse) := goodIn_app (goodIn_of _ (by decide +kernel)) ggX8_as_X8_isMouse
set_option maxRecDepth 20000 in
theorem ggX8_as_X8_in : GoodIn wsX8_as wsX8_in := goodIn_r _ [11] (by decide +kernel) (by decide +kernel)
set_option maxRecDepth 20000 in
theorem gX8_as_X8_in : GoodIn wsX8_as (va_wsS RX8 54 yX8_in wsX8_in) := goodIn_app (goodIn_of _ (by decide +kernel)) ggX8_as_X8_in
set_option maxRecDepth 20000 in
theorem ggX8_as_X8_dangerBy : GoodIn wsX8_as wsX8_dangerBy := goodIn_r _ [14] (by decide +kernel) (by decide +kernel)
set_option maxRecDepth 20000 in
theorem gX8_as_X8_dangerBy : GoodIn wsX8_as (va_wsS RX8 155 yX8_dangerBy wsX8_dangerBy) := goodIn_app (goodIn_of _ (by decide +kernel)) ggX8_as_X8_dangerBy
set_option maxRecDepth 20000 in
theorem ggX8_danger_X8_isStep : GoodIn wsX8_danger wsX8_isStep := goodIn_r _ [6, 7, 8, 9, 5, 10, 24, 25, 26, 27, 28, 29, 30, 31, 32, 33, 34, 35, 36, 37, 38, 39, 40, 41, 42, 43, 44, 45, 46, 47] (by decide +kernel) (by decide +kernel)
set_option maxRecDepth 20000 in
theorem gX8_danger_X8_isStep : GoodIn wsX8_danger (wsV RX8 152 RX8 yX8_isStep wsX8_isStep) := goodIn_app (goodIn_of _ (by decide +kernel)) ggX8_danger_X8_isStep
set_option maxRecDepth 20000 in
theorem ggX8_danger_X8_isMouse : GoodIn wsX8_danger wsX8_isMouse := goodIn_r _ [14, 7, 8, 9, 5, 10, 24, 25, 26, 27, 28, 29, 30, 31, 32, 33, 34, 35, 36, 37, 38, 39, 40, 41, 42, 43, 44, 45, 46, 47] (by decide +kernel) (by decide +kernel)
set_option maxRecDepth 20000 in
theorem gX8_danger_X8_isMouse : GoodIn wsX8_danger (wsV RX8 143 RX8 yX8_isMouse wsX8_isMouse) := goodIn_app (goodIn_of _ (by decide +kernel)) ggX8_danger_X8_isMouse
set_option maxRecDepth 20000 in
theorem ggX8_danger_X8_dangerTo : GoodIn wsX8_danger wsX8_dangerTo := goodIn_r _ [18, 19, 20, 21, 22, 5, 23, 24, 25, 26, 27, 28, 29, 30, 31, 32, 33, 34, 35, 36, 37, 38, 39, 40, 41, 42, 43, 44, 45, 46, 47] (by decide +kernel) (by decide +kernel)
set_option maxRecDepth 20000 in
theorem gX8_danger_X8_dangerTo : GoodIn wsX8_danger (wsV RX8 159 RX8 yX8_dangerTo wsX8_dangerTo) := goodIn_app (goodIn_of _ (by decide +kernel)) ggX8_danger_X8_dangerTo
set_option maxRecDepth 20000 in
theorem ggX8_put_X8_isStep : GoodIn wsX8_put wsX8_isStep := goodIn_r _ [7, 8, 9, 10, 6, 11, 30, 31, 32, 33, 34, 35, 36, 37, 38, 39, 40, 41, 42, 43, 44, 45, 46, 47, 48, 49, 50, 51, 52, 53] (by decide +kernel) (by decide +kernel)
set_option maxRecDepth 20000 in
theorem gX8_put_X8_isStep : GoodIn wsX8_put (wsV RX8 152 RX8 yX8_isStep wsX8_isStep) := goodIn_app (goodIn_of _ (by decide +kernel)) ggX8_put_X8_isStep
set_option maxRecDepth 20000 in
theorem ggX8_put_X8_isMouse : GoodIn wsX8_put wsX8_isMouse := goodIn_r _ [15, 8, 9, 10, 6, 11, 30, 31, 32, 33, 34, 35, 36, 37, 38, 39, 40, 41, 42, 43, 44, 45, 46, 47, 48, 49, 50, 51, 52, 53] (by decide +kernel) (by decide +kernel)
set_option maxRecDepth 20000 in
theorem gX8_put_X8_isMouse : GoodIn wsX8_put (wsV RX8 143 RX8 yX8_isMouse wsX8_isMouse) := goodIn_app (goodIn_of _ (by decide +kernel)) ggX8_put_X8_isMouse
set_option maxRecDepth 20000 in
theorem ggX8_put_X8_isLiving : GoodIn wsX8_put wsX8_isLiving := goodIn_r _ [19, 2, 30, 31, 32, 33, 34, 35, 36, 37, 38, 39, 40, 41, 42, 43, 44, 45, 46, 47, 48, 49, 50, 51, 52, 53] (by decide +kernel) (by decide +kernel)
set_option maxRecDepth 20000 in
theorem gX8_put_X8_isLiving : GoodIn wsX8_put (wsV RX8 146 RX8 yX8_isLiving wsX8_isLiving) := goodIn_app (goodIn_of _ (by decide +kernel)) ggX8_put_X8_isLiving
set_option maxRecDepth 20000 in
theorem ggX8_put_X8_notes : GoodIn wsX8_put wsX8_notes := goodIn_r _ [23, 24, 25, 2, 30, 31, 32, 33, 34, 35, 36, 37, 38, 39, 40, 41, 42, 43, 44, 45, 46, 47, 48, 49, 50, 51, 52, 53] (by decide +kernel) (by decide +kernel)
set_option maxRecDepth 20000 in
theorem gX8_put_X8_notes : GoodIn wsX8_put (wsV RX8 163 RX8 yX8_notes wsX8_notes) := goodIn_app (goodIn_of _ (by decide +kernel)) ggX8_put_X8_notes
set_option maxRecDepth 20000 in
theorem ggX8_put_X8_done : GoodIn wsX8_put wsX8_done := goodIn_r _ [29, 8, 2, 30, 31, 32, 33, 34, 35, 36, 37, 38, 39, 40, 41, 42, 43, 44, 45, 46, 47, 48, 49, 50, 51, 52, 53] (by decide +kernel) (by decide +kernel)
set_option maxRecDepth 20000 in
theorem gX8_put_X8_done : GoodIn wsX8_put (wsV RX8 166 RX8 yX8_done wsX8_done) := goodIn_app (goodIn_of _ (by decide +kernel)) ggX8_put_X8_done
set_option maxRecDepth 20000 in
theorem ggX8_clear_X8_done : GoodIn wsX8_clear wsX8_done := goodIn_r _ [7, 8, 2, 15, 16, 17, 18, 19, 20, 21, 22, 23, 24, 25, 26, 27, 28, 29, 30, 31, 32, 33, 34, 35, 36, 37, 38] (by decide +kernel) (by decide +kernel)
set_option maxRecDepth 20000 in
theorem gX8_clear_X8_done : GoodIn wsX8_clear (wsV RX8 166 RX8 yX8_done wsX8_done) := goodIn_app (goodIn_of _ (by decide +kernel)) ggX8_clear_X8_done
set_option maxRecDepth 20000 in
theorem ggX8_clear_X8_notes : GoodIn wsX8_clear wsX8_notes := goodIn_r _ [12, 13, 14, 2, 15, 16, 17, 18, 19, 20, 21, 22, 23, 24, 25, 26, 27, 28, 29, 30, 31, 32, 33, 34, 35, 36, 37, 38] (by decide +kernel) (by decide +kernel)
set_option maxRecDepth 20000 in
theorem gX8_clear_X8_notes : GoodIn wsX8_clear (wsV RX8 163 RX8 yX8_notes wsX8_notes) := goodIn_app (goodIn_of _ (by decide +kernel)) ggX8_clear_X8_notes
set_option maxRecDepth 20000 in
theorem ggX8_isWhole_X8_done : GoodIn wsX8_isWhole wsX8_done := goodIn_r _ [6, 1, 7, 8, 9, 10, 11, 12, 13, 14, 15, 16, 17, 18, 19, 20, 21, 22, 23, 24, 25, 26, 27, 28, 29, 30, 31] (by decide +kernel) (by decide +kernel)
set_option maxRecDepth 20000 in
theorem gX8_isWhole_X8_done : GoodIn wsX8_isWhole (wsV RX8 166 RX8 yX8_done wsX8_done) := goodIn_app (goodIn_of _ (by decide +kernel)) ggX8_isWhole_X8_done
set_option maxRecDepth 20000 in
theorem ggX8_night_X8_in : GoodIn wsX8_night wsX8_in := goodIn_r _ [7] (by decide +kernel) (by decide +kernel)
set_option maxRecDepth 20000 in
theorem gX8_night_X8_in : GoodIn wsX8_night (va_wsS RX8 54 yX8_in wsX8_in) := goodIn_app (goodIn_of _ (by decide +kernel)) ggX8_night_X8_in
set_option maxRecDepth 20000 in
theorem ggX8_night_X8_isWhole : GoodIn wsX8_night wsX8_isWhole := goodIn_r _ [11, 3, 12, 13, 14, 6, 15, 2, 39, 40, 41, 42, 43, 44, 45, 46, 47, 48, 49, 50, 51, 52, 53, 54, 55, 56, 57, 58, 59, 60, 61, 62] (by decide +kernel) (by decide +kernel)
set_option maxRecDepth 20000 in
theorem gX8_night_X8_isWhole : GoodIn wsX8_night (wsV RX8 177 RX8 yX8_isWhole wsX8_isWhole) := goodIn_app (goodIn_of _ (by decide +kernel)) ggX8_night_X8_isWhole
set_option maxRecDepth 20000 in
theorem ggX8_night_X8_notes : GoodIn wsX8_night wsX8_notes := goodIn_r _ [19, 20, 21, 2, 39, 40, 41, 42, 43, 44, 45, 46, 47, 48, 49, 50, 51, 52, 53, 54, 55, 56, 57, 58, 59, 60, 61, 62] (by decide +kernel) (by decide +kernel)
set_option maxRecDepth 20000 in
theorem gX8_night_X8_notes : GoodIn wsX8_night (wsV RX8 163 RX8 yX8_notes wsX8_notes) := goodIn_app (goodIn_of _ (by decide +kernel)) ggX8_night_X8_notes
set_option maxRecDepth 20000 in
theorem ggX8_night_X8_drawOf : GoodIn wsX8_night wsX8_drawOf := goodIn_r _ [25, 26, 27, 28, 29] (by decide +kernel) (by decide +kernel)
set_option maxRecDepth 20000 in
theorem gX8_night_X8_drawOf : GoodIn wsX8_night (wsV RX8 181 RX8 yX8_drawOf wsX8_drawOf) := goodIn_app (goodIn_of _ (by decide +kernel)) ggX8_night_X8_drawOf
set_option maxRecDepth 20000 in
theorem ggX8_night_X8_dangerTo : GoodIn wsX8_night wsX8_dangerTo := goodIn_r _ [33, 34, 35, 36, 37, 6, 38, 39, 40, 41, 42, 43, 44, 45, 46, 47, 48, 49, 50, 51, 52, 53, 54, 55, 56, 57, 58, 59, 60, 61, 62] (by decide +kernel) (by decide +kernel)
set_option maxRecDepth 20000 in
theorem gX8_night_X8_dangerTo : GoodIn wsX8_night (wsV RX8 159 RX8 yX8_dangerTo wsX8_dangerTo) := goodIn_app (goodIn_of _ (by decide +kernel)) ggX8_night_X8_dangerTo
set_option maxRecDepth 20000 in
theorem ggX8_keep_X8_in : GoodIn wsX8_keep wsX8_in := goodIn_r _ [8] (by decide +kernel) (by decide +kernel)
set_option maxRecDepth 20000 in
theorem gX8_keep_X8_in : GoodIn wsX8_keep (va_wsS RX8 54 yX8_in wsX8_in) := goodIn_app (goodIn_of _ (by decide +kernel)) ggX8_keep_X8_in
set_option maxRecDepth 20000 in
theorem ggX8_back_X8_in : GoodIn wsX8_back wsX8_in := goodIn_r _ [9] (by decide +kernel) (by decide +kernel)
set_option maxRecDepth 20000 in
theorem gX8_back_X8_in : GoodIn wsX8_back (va_wsS RX8 54 yX8_in wsX8_in) := goodIn_app (goodIn_of _ (by decide +kernel)) ggX8_back_X8_in
set_option maxRecDepth 20000 in
theorem ggX8_part_X8_gcd : GoodIn wsX8_part wsX8_gcd := goodIn_r _ [4] (by decide +kernel) (by decide +kernel)
set_option maxRecDepth 20000 in
theorem gX8_part_X8_gcd : GoodIn wsX8_part (va_wsS RX8 184 yX8_gcd wsX8_gcd) := goodIn_app (goodIn_of _ (by decide +kernel)) ggX8_part_X8_gcd
set_option maxRecDepth 20000 in
theorem ggX8_throughTo_X8_dangerTo : GoodIn wsX8_throughTo wsX8_dangerTo := goodIn_r _ [6, 7, 8, 9, 10, 5, 11, 12, 13, 14, 15, 16, 17, 18, 19, 20, 21, 22, 23, 24, 25, 26, 27, 28, 29, 30, 31, 32, 33, 34, 35] (by decide +kernel) (by decide +kernel)
set_option maxRecDepth 20000 in
theorem gX8_throughTo_X8_dangerTo : GoodIn wsX8_throughTo (wsV RX8 159 RX8 yX8_dangerTo wsX8_dangerTo) := goodIn_app (goodIn_of _ (by decide +kernel)) ggX8_throughTo_X8_dangerTo
set_option maxRecDepth 20000 in
theorem ggX8_through_X8_isPart : GoodIn wsX8_through wsX8_isPart := goodIn_r _ [7] (by decide +kernel) (by decide +kernel)
set_option maxRecDepth 20000 in
theorem gX8_through_X8_isPart : GoodIn wsX8_through (va_wsS RX8 188 yX8_isPart wsX8_isPart) := goodIn_app (goodIn_of _ (by decide +kernel)) ggX8_through_X8_isPart
set_option maxRecDepth 20000 in
theorem ggX8_through_X8_isWhole : GoodIn wsX8_through wsX8_isWhole := goodIn_r _ [11, 2, 12, 13, 14, 6, 15, 16, 39, 40, 41, 42, 43, 44, 45, 46, 47, 48, 49, 50, 51, 52, 53, 54, 55, 56, 57, 58, 59, 60, 61, 62] (by decide +kernel) (by decide +kernel)
set_option maxRecDepth 20000 in
theorem gX8_through_X8_isWhole : GoodIn wsX8_through (wsV RX8 177 RX8 yX8_isWhole wsX8_isWhole) := goodIn_app (goodIn_of _ (by decide +kernel)) ggX8_through_X8_isWhole
set_option maxRecDepth 20000 in
theorem ggX8_through_X8_throughTo : GoodIn wsX8_through wsX8_throughTo := goodIn_r _ [20, 16, 21, 22, 23, 6, 24, 25, 26, 27, 28, 29, 39, 40, 41, 42, 43, 44, 45, 46, 47, 48, 49, 50, 51, 52, 53, 54, 55, 56, 57, 58, 59, 60, 61, 62] (by decide +kernel) (by decide +kernel)
set_option maxRecDepth 20000 in
theorem gX8_through_X8_throughTo : GoodIn wsX8_through (wsV RX8 191 RX8 yX8_throughTo wsX8_throughTo) := goodIn_app (goodIn_of _ (by decide +kernel)) ggX8_through_X8_throughTo
set_option maxRecDepth 20000 in
theorem ggX8_through_X8_power : GoodIn wsX8_through wsX8_power := goodIn_r _ [32] (by decide +kernel) (by decide +kernel)
set_option maxRecDepth 20000 in
theorem gX8_through_X8_power : GoodIn wsX8_through (va_wsS RX8 195 yX8_power wsX8_power) := goodIn_app (goodIn_of _ (by decide +kernel)) ggX8_through_X8_power
set_option maxRecDepth 20000 in
theorem ggX8_through_X8_part : GoodIn wsX8_through wsX8_part := goodIn_r _ [35, 36, 37, 6, 38] (by decide +kernel) (by decide +kernel)
set_option maxRecDepth 20000 in
theorem gX8_through_X8_part : GoodIn wsX8_through (va_wsS RX8 199 yX8_part wsX8_part) := goodIn_app (goodIn_of _ (by decide +kernel)) ggX8_through_X8_part
set_option maxRecDepth 20000 in
theorem ggX8_fails__X8_isStep : GoodIn wsX8_fails_ wsX8_isStep := goodIn_r _ [8, 9, 10, 11, 7, 12, 46, 47, 48, 49, 50, 51, 52, 53, 54, 55, 56, 57, 58, 59, 60, 61, 62, 63, 64, 65, 66, 67, 68, 69] (by decide +kernel) (by decide +kernel)
set_option maxRecDepth 20000 in
theorem gX8_fails__X8_isStep : GoodIn wsX8_fails_ (wsV RX8 152 RX8 yX8_isStep wsX8_isStep) := goodIn_app (goodIn_of _ (by decide +kernel)) ggX8_fails__X8_isStep
set_option maxRecDepth 20000 in
theorem ggX8_fails__X8_isPart : GoodIn wsX8_fails_ wsX8_isPart := goodIn_r _ [15] (by decide +kernel) (by decide +kernel)
set_option maxRecDepth 20000 in
theorem gX8_fails__X8_isPart : GoodIn wsX8_fails_ (va_wsS RX8 188 yX8_isPart wsX8_isPart) := goodIn_app (goodIn_of _ (by decide +kernel)) ggX8_fails__X8_isPart
set_option maxRecDepth 20000 in
theorem ggX8_fails__X8_isWhole : GoodIn wsX8_fails_ wsX8_isWhole := goodIn_r _ [19, 9, 20, 21, 22, 7, 23, 2, 46, 47, 48, 49, 50, 51, 52, 53, 54, 55, 56, 57, 58, 59, 60, 61, 62, 63, 64, 65, 66, 67, 68, 69] (by decide +kernel) (by decide +kernel)
set_option maxRecDepth 20000 in
theorem gX8_fails__X8_isWhole : GoodIn wsX8_fails_ (wsV RX8 177 RX8 yX8_isWhole wsX8_isWhole) := goodIn_app (goodIn_of _ (by decide +kernel)) ggX8_fails__X8_isWhole
set_option maxRecDepth 20000 in
theorem ggX8_fails__X8_throughTo : GoodIn wsX8_fails_ wsX8_throughTo := goodIn_r _ [27, 2, 28, 29, 30, 7, 31, 32, 33, 34, 35, 36, 46, 47, 48, 49, 50, 51, 52, 53, 54, 55, 56, 57, 58, 59, 60, 61, 62, 63, 64, 65, 66, 67, 68, 69] (by decide +kernel) (by decide +kernel)
set_option maxRecDepth 20000 in
theorem gX8_fails__X8_throughTo : GoodIn wsX8_fails_ (wsV RX8 191 RX8 yX8_throughTo wsX8_throughTo) := goodIn_app (goodIn_of _ (by decide +kernel)) ggX8_fails__X8_throughTo
set_option maxRecDepth 20000 in
theorem ggX8_fails__X8_dangerTo : GoodIn wsX8_fails_ wsX8_dangerTo := goodIn_r _ [31, 32, 33, 34, 35, 7, 36, 46, 47, 48, 49, 50, 51, 52, 53, 54, 55, 56, 57, 58, 59, 60, 61, 62, 63, 64, 65, 66, 67, 68, 69] (by decide +kernel) (by decide +kernel)
set_option maxRecDepth 20000 in
theorem gX8_fails__X8_dangerTo : GoodIn wsX8_fails_ (wsV RX8 159 RX8 yX8_dangerTo wsX8_dangerTo) := goodIn_app (goodIn_of _ (by decide +kernel)) ggX8_fails__X8_dangerTo
set_option maxRecDepth 20000 in
theorem ggX8_fails__X8_power : GoodIn wsX8_fails_ wsX8_power := goodIn_r _ [39] (by decide +kernel) (by decide +kernel)
set_option maxRecDepth 20000 in
theorem gX8_fails__X8_power : GoodIn wsX8_fails_ (va_wsS RX8 195 yX8_power wsX8_power) := goodIn_app (goodIn_of _ (by decide +kernel)) ggX8_fails__X8_power
set_option maxRecDepth 20000 in
theorem ggX8_fails__X8_part : GoodIn wsX8_fails_ wsX8_part := goodIn_r _ [42, 43, 44, 7, 45] (by decide +kernel) (by decide +kernel)
set_option maxRecDepth 20000 in
theorem gX8_fails__X8_part : GoodIn wsX8_fails_ (va_wsS RX8 199 yX8_part wsX8_part) := goodIn_app (goodIn_of _ (by decide +kernel)) ggX8_fails__X8_part
set_option maxRecDepth 20000 in
theorem ggX8_loss_X8_isPart : GoodIn wsX8_loss wsX8_isPart := goodIn_r _ [9] (by decide +kernel) (by decide +kernel)
set_option maxRecDepth 20000 in
theorem gX8_loss_X8_isPart : GoodIn wsX8_loss (va_wsS RX8 188 yX8_isPart wsX8_isPart) := goodIn_app (goodIn_of _ (by decide +kernel)) ggX8_loss_X8_isPart
set_option maxRecDepth 20000 in
theorem ggX8_loss_X8_isWhole : GoodIn wsX8_loss wsX8_isWhole := goodIn_r _ [13, 2, 14, 15, 16, 8, 17, 3, 39, 40, 41, 42, 43, 44, 45, 46, 47, 48, 49, 50, 51, 52, 53, 54, 55, 56, 57, 58, 59, 60, 61, 62] (by decide +kernel) (by decide +kernel)
set_option maxRecDepth 20000 in
theorem gX8_loss_X8_isWhole : GoodIn wsX8_loss (wsV RX8 177 RX8 yX8_isWhole wsX8_isWhole) := goodIn_app (goodIn_of _ (by decide +kernel)) ggX8_loss_X8_isWhole
set_option maxRecDepth 20000 in
theorem ggX8_loss_X8_throughTo : GoodIn wsX8_loss wsX8_throughTo := goodIn_r _ [21, 3, 22, 23, 24, 8, 25, 4, 26, 27, 28, 29, 39, 40, 41, 42, 43, 44, 45, 46, 47, 48, 49, 50, 51, 52, 53, 54, 55, 56, 57, 58, 59, 60, 61, 62] (by decide +kernel) (by decide +kernel)
set_option maxRecDepth 20000 in
theorem gX8_loss_X8_throughTo : GoodIn wsX8_loss (wsV RX8 191 RX8 yX8_throughTo wsX8_throughTo) := goodIn_app (goodIn_of _ (by decide +kernel)) ggX8_loss_X8_throughTo
set_option maxRecDepth 20000 in
theorem ggX8_loss_X8_dangerTo : GoodIn wsX8_loss wsX8_dangerTo := goodIn_r _ [25, 4, 26, 27, 28, 8, 29, 39, 40, 41, 42, 43, 44, 45, 46, 47, 48, 49, 50, 51, 52, 53, 54, 55, 56, 57, 58, 59, 60, 61, 62] (by decide +kernel) (by decide +kernel)
set_option maxRecDepth 20000 in
theorem gX8_loss_X8_dangerTo : GoodIn wsX8_loss (wsV RX8 159 RX8 yX8_dangerTo wsX8_dangerTo) := goodIn_app (goodIn_of _ (by decide +kernel)) ggX8_loss_X8_dangerTo
set_option maxRecDepth 20000 in
theorem ggX8_loss_X8_power : GoodIn wsX8_loss wsX8_power := goodIn_r _ [32] (by decide +kernel) (by decide +kernel)
set_option maxRecDepth 20000 in
theorem gX8_loss_X8_power : GoodIn wsX8_loss (va_wsS RX8 195 yX8_power wsX8_power) := goodIn_app (goodIn_of _ (by decide +kernel)) ggX8_loss_X8_power
set_option maxRecDepth 20000 in
theorem ggX8_loss_X8_part : GoodIn wsX8_loss wsX8_part := goodIn_r _ [35, 36, 37, 8, 38] (by decide +kernel) (by decide +kernel)
set_option maxRecDepth 20000 in
theorem gX8_loss_X8_part : GoodIn wsX8_loss (va_wsS RX8 199 yX8_part wsX8_part) := goodIn_app (goodIn_of _ (by decide +kernel)) ggX8_loss_X8_part
set_option maxRecDepth 20000 in
theorem ggX8_mayGo_X8_ones : GoodIn wsX8_mayGo wsX8_ones := goodIn_r _ [7] (by decide +kernel) (by decide +kernel)
set_option maxRecDepth 20000 in
theorem gX8_mayGo_X8_ones : GoodIn wsX8_mayGo (va_wsS RX8 203 yX8_ones wsX8_ones) := goodIn_app (goodIn_of _ (by decide +kernel)) ggX8_mayGo_X8_ones
set_option maxRecDepth 20000 in
theorem ggX8_mayGo_X8_isLiving : GoodIn wsX8_mayGo wsX8_isLiving := goodIn_r _ [11, 2, 12, 13, 14, 15, 16, 17, 18, 19, 20, 21, 22, 23, 24, 25, 26, 27, 28, 29, 30, 31, 32, 33, 34, 35] (by decide +kernel) (by decide +kernel)
set_option maxRecDepth 20000 in
theorem gX8_mayGo_X8_isLiving : GoodIn wsX8_mayGo (wsV RX8 146 RX8 yX8_isLiving wsX8_isLiving) := goodIn_app (goodIn_of _ (by decide +kernel)) ggX8_mayGo_X8_isLiving
set_option maxRecDepth 20000 in
theorem ggX8_findsBest_X8_rowsOf : GoodIn wsX8_findsBest wsX8_rowsOf := goodIn_r _ [8] (by decide +kernel) (by decide +kernel)
set_option maxRecDepth 20000 in
theorem gX8_findsBest_X8_rowsOf : GoodIn wsX8_findsBest (va_wsS RX8 208 yX8_rowsOf wsX8_rowsOf) := goodIn_app (goodIn_of _ (by decide +kernel)) ggX8_findsBest_X8_rowsOf
set_option maxRecDepth 20000 in
theorem ggX8_findsBest_X8_rowOf : GoodIn wsX8_findsBest wsX8_rowOf := goodIn_r _ [12, 2, 3, 34, 35, 36, 37, 38, 39, 40, 41, 42, 43, 44, 45, 46, 47, 48, 49, 50, 51, 52, 53, 54, 55, 56, 57] (by decide +kernel) (by decide +kernel)
set_option maxRecDepth 20000 in
theorem gX8_findsBest_X8_rowOf : GoodIn wsX8_findsBest (wsV RX8 211 RX8 yX8_rowOf wsX8_rowOf) := goodIn_app (goodIn_of _ (by decide +kernel)) ggX8_findsBest_X8_rowOf
set_option maxRecDepth 20000 in
theorem ggX8_findsBest_X8_mayGo : GoodIn wsX8_findsBest wsX8_mayGo := goodIn_r _ [16, 2, 17, 3, 18, 19, 7, 20, 21, 22, 23, 24, 34, 35, 36, 37, 38, 39, 40, 41, 42, 43, 44, 45, 46, 47, 48, 49, 50, 51, 52, 53, 54, 55, 56, 57] (by decide +kernel) (by decide +kernel)
set_option maxRecDepth 20000 in
theorem gX8_findsBest_X8_mayGo : GoodIn wsX8_findsBest (wsV RX8 214 RX8 yX8_mayGo wsX8_mayGo) := goodIn_app (goodIn_of _ (by decide +kernel)) ggX8_findsBest_X8_mayGo
set_option maxRecDepth 20000 in
theorem ggX8_findsBest_X8_dangerTo : GoodIn wsX8_findsBest wsX8_dangerTo := goodIn_r _ [28, 29, 30, 31, 32, 7, 33, 34, 35, 36, 37, 38, 39, 40, 41, 42, 43, 44, 45, 46, 47, 48, 49, 50, 51, 52, 53, 54, 55, 56, 57] (by decide +kernel) (by decide +kernel)
set_option maxRecDepth 20000 in
theorem gX8_findsBest_X8_dangerTo : GoodIn wsX8_findsBest (wsV RX8 159 RX8 yX8_dangerTo wsX8_dangerTo) := goodIn_app (goodIn_of _ (by decide +kernel)) ggX8_findsBest_X8_dangerTo
set_option maxRecDepth 20000 in
theorem ggX8_best_X8_isPart : GoodIn wsX8_best wsX8_isPart := goodIn_r _ [7] (by decide +kernel) (by decide +kernel)
set_option maxRecDepth 20000 in
theorem gX8_best_X8_isPart : GoodIn wsX8_best (va_wsS RX8 188 yX8_isPart wsX8_isPart) := goodIn_app (goodIn_of _ (by decide +kernel)) ggX8_best_X8_isPart
set_option maxRecDepth 20000 in
theorem ggX8_best_X8_findsBest : GoodIn wsX8_best wsX8_findsBest := goodIn_r _ [11, 12, 2, 13, 14, 15, 16, 6, 17, 18, 19, 20, 21, 22, 23, 24, 25, 26, 27, 28, 29, 30, 31, 32, 33, 34, 35, 36, 37, 38, 39, 40, 41, 42, 52, 53, 54, 55, 56, 57, 58, 59, 60, 61, 62, 63, 64, 65, 66, 67, 68, 69, 70, 71, 72, 73, 74, 75] (by decide +kernel) (by decide +kernel)
set_option maxRecDepth 20000 in
theorem gX8_best_X8_findsBest : GoodIn wsX8_best (wsV RX8 217 RX8 yX8_findsBest wsX8_findsBest) := goodIn_app (goodIn_of _ (by decide +kernel)) ggX8_best_X8_findsBest
set_option maxRecDepth 20000 in
theorem ggX8_best_X8_power : GoodIn wsX8_best wsX8_power := goodIn_r _ [45] (by decide +kernel) (by decide +kernel)
set_option maxRecDepth 20000 in
theorem gX8_best_X8_power : GoodIn wsX8_best (va_wsS RX8 195 yX8_power wsX8_power) := goodIn_app (goodIn_of _ (by decide +kernel)) ggX8_best_X8_power
set_option maxRecDepth 20000 in
theorem ggX8_best_X8_part : GoodIn wsX8_best wsX8_part := goodIn_r _ [48, 49, 50, 6, 51] (by decide +kernel) (by decide +kernel)
set_option maxRecDepth 20000 in
theorem gX8_best_X8_part : GoodIn wsX8_best (va_wsS RX8 199 yX8_part wsX8_part) := goodIn_app (goodIn_of _ (by decide +kernel)) ggX8_best_X8_part
set_option maxRecDepth 20000 in
theorem ggX8_bestOf_X8_isStep : GoodIn wsX8_bestOf wsX8_isStep := goodIn_r _ [7, 8, 9, 10, 6, 11, 46, 47, 48, 49, 50, 51, 52, 53, 54, 55, 56, 57, 58, 59, 60, 61, 62, 63, 64, 65, 66, 67, 68, 69] (by decide +kernel) (by decide +kernel)
set_option maxRecDepth 20000 in
theorem gX8_bestOf_X8_isStep : GoodIn wsX8_bestOf (wsV RX8 152 RX8 yX8_isStep wsX8_isStep) := goodIn_app (goodIn_of _ (by decide +kernel)) ggX8_bestOf_X8_isStep
set_option maxRecDepth 20000 in
theorem ggX8_bestOf_X8_findsBest : GoodIn wsX8_bestOf wsX8_findsBest := goodIn_r _ [15, 16, 8, 17, 2, 18, 19, 6, 20, 21, 22, 23, 24, 25, 26, 27, 28, 29, 30, 31, 32, 33, 34, 35, 36, 37, 38, 39, 40, 41, 42, 43, 44, 45, 46, 47, 48, 49, 50, 51, 52, 53, 54, 55, 56, 57, 58, 59, 60, 61, 62, 63, 64, 65, 66, 67, 68, 69] (by decide +kernel) (by decide +kernel)
set_option maxRecDepth 20000 in
theorem gX8_bestOf_X8_findsBest : GoodIn wsX8_bestOf (wsV RX8 217 RX8 yX8_findsBest wsX8_findsBest) := goodIn_app (goodIn_of _ (by decide +kernel)) ggX8_bestOf_X8_findsBest
set_option maxRecDepth 20000 in
theorem ggX8_tickets_X8_isLiving : GoodIn wsX8_tickets wsX8_isLiving := goodIn_r _ [7, 8, 9, 10, 11, 12, 13, 14, 15, 16, 17, 18, 19, 20, 21, 22, 23, 24, 25, 26, 27, 28, 29, 30, 31, 32] (by decide +kernel) (by decide +kernel)
set_option maxRecDepth 20000 in
theorem gX8_tickets_X8_isLiving : GoodIn wsX8_tickets (wsV RX8 146 RX8 yX8_isLiving wsX8_isLiving) := goodIn_app (goodIn_of _ (by decide +kernel)) ggX8_tickets_X8_isLiving
set_option maxRecDepth 20000 in
theorem ggX8_drawn_X8_isMouse : GoodIn wsX8_drawn wsX8_isMouse := goodIn_r _ [7, 8, 9, 10, 6, 11, 30, 31, 32, 33, 34, 35, 36, 37, 38, 39, 40, 41, 42, 43, 44, 45, 46, 47, 48, 49, 50, 51, 52, 53] (by decide +kernel) (by decide +kernel)
set_option maxRecDepth 20000 in
theorem gX8_drawn_X8_isMouse : GoodIn wsX8_drawn (wsV RX8 143 RX8 yX8_isMouse wsX8_isMouse) := goodIn_app (goodIn_of _ (by decide +kernel)) ggX8_drawn_X8_isMouse
set_option maxRecDepth 20000 in
theorem ggX8_drawn_X8_isPart : GoodIn wsX8_drawn wsX8_isPart := goodIn_r _ [14] (by decide +kernel) (by decide +kernel)
set_option maxRecDepth 20000 in
theorem gX8_drawn_X8_isPart : GoodIn wsX8_drawn (va_wsS RX8 188 yX8_isPart wsX8_isPart) := goodIn_app (goodIn_of _ (by decide +kernel)) ggX8_drawn_X8_isPart
set_option maxRecDepth 20000 in
theorem ggX8_drawn_X8_tickets : GoodIn wsX8_drawn wsX8_tickets := goodIn_r _ [18, 8, 2, 19, 20, 21, 6, 22, 23, 30, 31, 32, 33, 34, 35, 36, 37, 38, 39, 40, 41, 42, 43, 44, 45, 46, 47, 48, 49, 50, 51, 52, 53] (by decide +kernel) (by decide +kernel)
set_option maxRecDepth 20000 in
theorem gX8_drawn_X8_tickets : GoodIn wsX8_drawn (wsV RX8 221 RX8 yX8_tickets wsX8_tickets) := goodIn_app (goodIn_of _ (by decide +kernel)) ggX8_drawn_X8_tickets
set_option maxRecDepth 20000 in
theorem ggX8_drawn_X8_isLiving : GoodIn wsX8_drawn wsX8_isLiving := goodIn_r _ [22, 23, 30, 31, 32, 33, 34, 35, 36, 37, 38, 39, 40, 41, 42, 43, 44, 45, 46, 47, 48, 49, 50, 51, 52, 53] (by decide +kernel) (by decide +kernel)
set_option maxRecDepth 20000 in
theorem gX8_drawn_X8_isLiving : GoodIn wsX8_drawn (wsV RX8 146 RX8 yX8_isLiving wsX8_isLiving) := goodIn_app (goodIn_of _ (by decide +kernel)) ggX8_drawn_X8_isLiving
set_option maxRecDepth 20000 in
theorem ggX8_drawn_X8_part : GoodIn wsX8_drawn wsX8_part := goodIn_r _ [26, 27, 28, 6, 29] (by decide +kernel) (by decide +kernel)
set_option maxRecDepth 20000 in
theorem gX8_drawn_X8_part : GoodIn wsX8_drawn (va_wsS RX8 199 yX8_part wsX8_part) := goodIn_app (goodIn_of _ (by decide +kernel)) ggX8_drawn_X8_part
set_option maxRecDepth 20000 in
theorem ggX8_caughtAlone_X8_dangerTo : GoodIn wsX8_caughtAlone wsX8_dangerTo := goodIn_r _ [7, 8, 9, 10, 11, 6, 12, 16, 17, 18, 19, 20, 21, 22, 23, 24, 25, 26, 27, 28, 29, 30, 31, 32, 33, 34, 35, 36, 37, 38, 39] (by decide +kernel) (by decide +kernel)
set_option maxRecDepth 20000 in
theorem gX8_caughtAlone_X8_dangerTo : GoodIn wsX8_caughtAlone (wsV RX8 159 RX8 yX8_dangerTo wsX8_dangerTo) := goodIn_app (goodIn_of _ (by decide +kernel)) ggX8_caughtAlone_X8_dangerTo
set_option maxRecDepth 20000 in
theorem ggX8_caughtAlone_X8_power : GoodIn wsX8_caughtAlone wsX8_power := goodIn_r _ [15] (by decide +kernel) (by decide +kernel)
set_option maxRecDepth 20000 in
theorem gX8_caughtAlone_X8_power : GoodIn wsX8_caughtAlone (va_wsS RX8 195 yX8_power wsX8_power) := goodIn_app (goodIn_of _ (by decide +kernel)) ggX8_caughtAlone_X8_power
set_option maxRecDepth 20000 in
theorem ggX8_alone_X8_isMouse : GoodIn wsX8_alone wsX8_isMouse := goodIn_r _ [8, 3, 9, 10, 7, 11, 37, 38, 39, 40, 41, 42, 43, 44, 45, 46, 47, 48, 49, 50, 51, 52, 53, 54, 55, 56, 57, 58, 59, 60] (by decide +kernel) (by decide +kernel)
set_option maxRecDepth 20000 in
theorem gX8_alone_X8_isMouse : GoodIn wsX8_alone (wsV RX8 143 RX8 yX8_isMouse wsX8_isMouse) := goodIn_app (goodIn_of _ (by decide +kernel)) ggX8_alone_X8_isMouse
set_option maxRecDepth 20000 in
theorem ggX8_alone_X8_isPart : GoodIn wsX8_alone wsX8_isPart := goodIn_r _ [14] (by decide +kernel) (by decide +kernel)
set_option maxRecDepth 20000 in
theorem gX8_alone_X8_isPart : GoodIn wsX8_alone (va_wsS RX8 188 yX8_isPart wsX8_isPart) := goodIn_app (goodIn_of _ (by decide +kernel)) ggX8_alone_X8_isPart
set_option maxRecDepth 20000 in
theorem ggX8_alone_X8_caughtAlone : GoodIn wsX8_alone wsX8_caughtAlone := goodIn_r _ [18, 3, 2, 19, 20, 21, 7, 22, 23, 24, 25, 26, 27, 28, 29, 30, 37, 38, 39, 40, 41, 42, 43, 44, 45, 46, 47, 48, 49, 50, 51, 52, 53, 54, 55, 56, 57, 58, 59, 60] (by decide +kernel) (by decide +kernel)
set_option maxRecDepth 20000 in
theorem gX8_alone_X8_caughtAlone : GoodIn wsX8_alone (wsV RX8 224 RX8 yX8_caughtAlone wsX8_caughtAlone) := goodIn_app (goodIn_of _ (by decide +kernel)) ggX8_alone_X8_caughtAlone
set_option maxRecDepth 20000 in
theorem ggX8_alone_X8_power : GoodIn wsX8_alone wsX8_power := goodIn_r _ [30] (by decide +kernel) (by decide +kernel)
set_option maxRecDepth 20000 in
theorem gX8_alone_X8_power : GoodIn wsX8_alone (va_wsS RX8 195 yX8_power wsX8_power) := goodIn_app (goodIn_of _ (by decide +kernel)) ggX8_alone_X8_power
set_option maxRecDepth 20000 in
theorem ggX8_alone_X8_part : GoodIn wsX8_alone wsX8_part := goodIn_r _ [33, 34, 35, 7, 36] (by decide +kernel) (by decide +kernel)
set_option maxRecDepth 20000 in
theorem gX8_alone_X8_part : GoodIn wsX8_alone (va_wsS RX8 199 yX8_part wsX8_part) := goodIn_app (goodIn_of _ (by decide +kernel)) ggX8_alone_X8_part
set_option maxRecDepth 20000 in
theorem ggX8_dreadOf_X8_caughtAlone : GoodIn wsX8_dreadOf wsX8_caughtAlone := goodIn_r _ [6, 7, 8, 9, 10, 11, 5, 12, 1, 13, 14, 15, 16, 17, 18, 19, 20, 21, 22, 23, 24, 25, 26, 27, 28, 29, 30, 31, 32, 33, 34, 35, 36, 37, 38, 39, 40, 41, 42, 43] (by decide +kernel) (by decide +kernel)
set_option maxRecDepth 20000 in
theorem gX8_dreadOf_X8_caughtAlone : GoodIn wsX8_dreadOf (wsV RX8 224 RX8 yX8_caughtAlone wsX8_caughtAlone) := goodIn_app (goodIn_of _ (by decide +kernel)) ggX8_dreadOf_X8_caughtAlone
set_option maxRecDepth 20000 in
theorem ggX8_dread_X8_isMouse : GoodIn wsX8_dread wsX8_isMouse := goodIn_r _ [8, 3, 9, 10, 7, 11, 41, 42, 43, 44, 45, 46, 47, 48, 49, 50, 51, 52, 53, 54, 55, 56, 57, 58, 59, 60, 61, 62, 63, 64] (by decide +kernel) (by decide +kernel)
set_option maxRecDepth 20000 in
theorem gX8_dread_X8_isMouse : GoodIn wsX8_dread (wsV RX8 143 RX8 yX8_isMouse wsX8_isMouse) := goodIn_app (goodIn_of _ (by decide +kernel)) ggX8_dread_X8_isMouse
set_option maxRecDepth 20000 in
theorem ggX8_dread_X8_isPart : GoodIn wsX8_dread wsX8_isPart := goodIn_r _ [14] (by decide +kernel) (by decide +kernel)
set_option maxRecDepth 20000 in
theorem gX8_dread_X8_isPart : GoodIn wsX8_dread (va_wsS RX8 188 yX8_isPart wsX8_isPart) := goodIn_app (goodIn_of _ (by decide +kernel)) ggX8_dread_X8_isPart
set_option maxRecDepth 20000 in
theorem ggX8_dread_X8_dreadOf : GoodIn wsX8_dread wsX8_dreadOf := goodIn_r _ [18, 19, 20, 21, 22, 7, 23, 3, 2, 24, 25, 26, 27, 28, 29, 30, 31, 32, 33, 34, 41, 42, 43, 44, 45, 46, 47, 48, 49, 50, 51, 52, 53, 54, 55, 56, 57, 58, 59, 60, 61, 62, 63, 64] (by decide +kernel) (by decide +kernel)
set_option maxRecDepth 20000 in
theorem gX8_dread_X8_dreadOf : GoodIn wsX8_dread (wsV RX8 227 RX8 yX8_dreadOf wsX8_dreadOf) := goodIn_app (goodIn_of _ (by decide +kernel)) ggX8_dread_X8_dreadOf
set_option maxRecDepth 20000 in
theorem ggX8_dread_X8_power : GoodIn wsX8_dread wsX8_power := goodIn_r _ [34] (by decide +kernel) (by decide +kernel)
set_option maxRecDepth 20000 in
theorem gX8_dread_X8_power : GoodIn wsX8_dread (va_wsS RX8 195 yX8_power wsX8_power) := goodIn_app (goodIn_of _ (by decide +kernel)) ggX8_dread_X8_power
set_option maxRecDepth 20000 in
theorem ggX8_dread_X8_part : GoodIn wsX8_dread wsX8_part := goodIn_r _ [37, 38, 39, 7, 40] (by decide +kernel) (by decide +kernel)
set_option maxRecDepth 20000 in
theorem gX8_dread_X8_part : GoodIn wsX8_dread (va_wsS RX8 199 yX8_part wsX8_part) := goodIn_app (goodIn_of _ (by decide +kernel)) ggX8_dread_X8_part
set_option maxRecDepth 20000 in
theorem ggX8_hires_X8_isMouse : GoodIn wsX8_hires wsX8_isMouse := goodIn_r _ [7, 2, 8, 9, 6, 10, 37, 38, 39, 40, 41, 42, 43, 44, 45, 46, 47, 48, 49, 50, 51, 52, 53, 54, 55, 56, 57, 58, 59, 60] (by decide +kernel) (by decide +kernel)
set_option maxRecDepth 20000 in
theorem gX8_hires_X8_isMouse : GoodIn wsX8_hires (wsV RX8 143 RX8 yX8_isMouse wsX8_isMouse) := goodIn_app (goodIn_of _ (by decide +kernel)) ggX8_hires_X8_isMouse
set_option maxRecDepth 20000 in
theorem ggX8_hires_X8_isLiving : GoodIn wsX8_hires wsX8_isLiving := goodIn_r _ [14, 15, 37, 38, 39, 40, 41, 42, 43, 44, 45, 46, 47, 48, 49, 50, 51, 52, 53, 54, 55, 56, 57, 58, 59, 60] (by decide +kernel) (by decide +kernel)
set_option maxRecDepth 20000 in
theorem gX8_hires_X8_isLiving : GoodIn wsX8_hires (wsV RX8 146 RX8 yX8_isLiving wsX8_isLiving) := goodIn_app (goodIn_of _ (by decide +kernel)) ggX8_hires_X8_isLiving
set_option maxRecDepth 20000 in
theorem ggX8_hires_X8_dreadOf : GoodIn wsX8_hires wsX8_dreadOf := goodIn_r _ [19, 20, 21, 22, 23, 6, 24, 2, 25, 26, 27, 28, 29, 30, 31, 32, 33, 34, 35, 36, 37, 38, 39, 40, 41, 42, 43, 44, 45, 46, 47, 48, 49, 50, 51, 52, 53, 54, 55, 56, 57, 58, 59, 60] (by decide +kernel) (by decide +kernel)
set_option maxRecDepth 20000 in
theorem gX8_hires_X8_dreadOf : GoodIn wsX8_hires (wsV RX8 227 RX8 yX8_dreadOf wsX8_dreadOf) := goodIn_app (goodIn_of _ (by decide +kernel)) ggX8_hires_X8_dreadOf
set_option maxRecDepth 20000 in
theorem ggX8_isAtRest_X8_power : GoodIn wsX8_isAtRest wsX8_power := goodIn_r _ [6] (by decide +kernel) (by decide +kernel)
set_option maxRecDepth 20000 in
theorem gX8_isAtRest_X8_power : GoodIn wsX8_isAtRest (va_wsS RX8 195 yX8_power wsX8_power) := goodIn_app (goodIn_of _ (by decide +kernel)) ggX8_isAtRest_X8_power
set_option maxRecDepth 20000 in
theorem ggX8_isAtRest_X8_isLiving : GoodIn wsX8_isAtRest wsX8_isLiving := goodIn_r _ [10, 11, 32, 33, 34, 35, 36, 37, 38, 39, 40, 41, 42, 43, 44, 45, 46, 47, 48, 49, 50, 51, 52, 53, 54, 55] (by decide +kernel) (by decide +kernel)
set_option maxRecDepth 20000 in
theorem gX8_isAtRest_X8_isLiving : GoodIn wsX8_isAtRest (wsV RX8 146 RX8 yX8_isLiving wsX8_isLiving) := goodIn_app (goodIn_of _ (by decide +kernel)) ggX8_isAtRest_X8_isLiving
set_option maxRecDepth 20000 in
theorem ggX8_isAtRest_X8_dreadOf : GoodIn wsX8_isAtRest wsX8_dreadOf := goodIn_r _ [15, 16, 17, 18, 19, 5, 20, 2, 1, 21, 22, 23, 24, 25, 26, 27, 28, 3, 4, 6, 32, 33, 34, 35, 36, 37, 38, 39, 40, 41, 42, 43, 44, 45, 46, 47, 48, 49, 50, 51, 52, 53, 54, 55] (by decide +kernel) (by decide +kernel)
set_option maxRecDepth 20000 in
theorem gX8_isAtRest_X8_dreadOf : GoodIn wsX8_isAtRest (wsV RX8 227 RX8 yX8_dreadOf wsX8_dreadOf) := goodIn_app (goodIn_of _ (by decide +kernel)) ggX8_isAtRest_X8_dreadOf
set_option maxRecDepth 20000 in
theorem ggX8_isAtRest_X8_ones : GoodIn wsX8_isAtRest wsX8_ones := goodIn_r _ [31] (by decide +kernel) (by decide +kernel)
set_option maxRecDepth 20000 in
theorem gX8_isAtRest_X8_ones : GoodIn wsX8_isAtRest (va_wsS RX8 203 yX8_ones wsX8_ones) := goodIn_app (goodIn_of _ (by decide +kernel)) ggX8_isAtRest_X8_ones
set_option maxRecDepth 20000 in
theorem ggX8_leastAtRest_X8_isAtRest : GoodIn wsX8_leastAtRest wsX8_isAtRest := goodIn_r _ [7, 8, 1, 9, 10, 6, 11, 12, 13, 14, 15, 2, 16, 17, 18, 19, 20, 21, 22, 23, 24, 25, 26, 27, 28, 29, 30, 31, 32, 33, 34, 35, 36, 37, 38, 39, 40, 41, 42, 43, 44, 45, 46, 47, 48, 49, 50, 51, 52, 53, 54, 55, 56, 57, 58, 59] (by decide +kernel) (by decide +kernel)
set_option maxRecDepth 20000 in
theorem gX8_leastAtRest_X8_isAtRest : GoodIn wsX8_leastAtRest (wsV RX8 230 RX8 yX8_isAtRest wsX8_isAtRest) := goodIn_app (goodIn_of _ (by decide +kernel)) ggX8_leastAtRest_X8_isAtRest
set_option maxRecDepth 20000 in
theorem ggX8_rests_X8_in : GoodIn wsX8_rests wsX8_in := goodIn_r _ [7] (by decide +kernel) (by decide +kernel)
set_option maxRecDepth 20000 in
theorem gX8_rests_X8_in : GoodIn wsX8_rests (va_wsS RX8 54 yX8_in wsX8_in) := goodIn_app (goodIn_of _ (by decide +kernel)) ggX8_rests_X8_in
set_option maxRecDepth 20000 in
theorem ggX8_rests_X8_leastAtRest : GoodIn wsX8_rests wsX8_leastAtRest := goodIn_r _ [11, 2, 3, 12, 13, 14, 6, 15, 16, 17, 18, 19, 20, 21, 22, 23, 24, 25, 26, 27, 28, 29, 30, 31, 32, 33, 34, 35, 36, 37, 38, 39, 40, 41, 42, 43, 44, 45, 46, 47, 48, 49, 50, 51, 52, 53, 54, 55, 56, 57, 58, 59, 60, 61, 62, 63, 64, 65, 66, 67] (by decide +kernel) (by decide +kernel)
set_option maxRecDepth 20000 in
theorem gX8_rests_X8_leastAtRest : GoodIn wsX8_rests (wsV RX8 234 RX8 yX8_leastAtRest wsX8_leastAtRest) := goodIn_app (goodIn_of _ (by decide +kernel)) ggX8_rests_X8_leastAtRest
set_option maxRecDepth 20000 in
theorem ggX8_rests_X8_isAtRest : GoodIn wsX8_rests wsX8_isAtRest := goodIn_r _ [15, 16, 2, 17, 18, 6, 19, 20, 21, 22, 23, 3, 24, 25, 26, 27, 28, 29, 30, 31, 32, 33, 34, 35, 36, 37, 38, 39, 40, 41, 42, 43, 44, 45, 46, 47, 48, 49, 50, 51, 52, 53, 54, 55, 56, 57, 58, 59, 60, 61, 62, 63, 64, 65, 66, 67] (by decide +kernel) (by decide +kernel)
set_option maxRecDepth 20000 in
theorem gX8_rests_X8_isAtRest : GoodIn wsX8_rests (wsV RX8 230 RX8 yX8_isAtRest wsX8_isAtRest) := goodIn_app (goodIn_of _ (by decide +kernel)) ggX8_rests_X8_isAtRest
set_option maxRecDepth 20000 in
theorem ggX8_fund_X8_leastAtRest : GoodIn wsX8_fund wsX8_leastAtRest := goodIn_r _ [6, 7, 8, 9, 10, 11, 5, 12, 13, 14, 15, 16, 17, 18, 19, 20, 21, 22, 23, 24, 25, 26, 27, 28, 29, 30, 31, 32, 33, 34, 35, 36, 37, 38, 39, 40, 41, 42, 43, 44, 45, 46, 47, 48, 49, 50, 51, 52, 53, 54, 55, 56, 57, 58, 59, 60, 61, 62, 63, 64] (by decide +kernel) (by decide +kernel)
set_option maxRecDepth 20000 in
theorem gX8_fund_X8_leastAtRest : GoodIn wsX8_fund (wsV RX8 234 RX8 yX8_leastAtRest wsX8_leastAtRest) := goodIn_app (goodIn_of _ (by decide +kernel)) ggX8_fund_X8_leastAtRest
set_option maxRecDepth 20000 in
theorem ggX8_rats_X8_in : GoodIn wsX8_rats wsX8_in := goodIn_r _ [6] (by decide +kernel) (by decide +kernel)
set_option maxRecDepth 20000 in
theorem gX8_rats_X8_in : GoodIn wsX8_rats (va_wsS RX8 54 yX8_in wsX8_in) := goodIn_app (goodIn_of _ (by decide +kernel)) ggX8_rats_X8_in
set_option maxRecDepth 20000 in
theorem ggX8_rats_X8_worthOf : GoodIn wsX8_rats wsX8_worthOf := goodIn_r _ [10, 2, 11, 12, 13, 14, 15, 16, 17, 18, 19, 20, 21, 22, 23, 24, 25, 26, 27, 28, 29, 30, 31, 32, 33, 34, 35] (by decide +kernel) (by decide +kernel)
set_option maxRecDepth 20000 in
theorem gX8_rats_X8_worthOf : GoodIn wsX8_rats (wsV RX8 238 RX8 yX8_worthOf wsX8_worthOf) := goodIn_app (goodIn_of _ (by decide +kernel)) ggX8_rats_X8_worthOf
set_option maxRecDepth 20000 in
theorem ggX8_shoe_X8_isMouse : GoodIn wsX8_shoe wsX8_isMouse := goodIn_r _ [11, 12, 13, 14, 10, 15, 38, 39, 40, 41, 42, 43, 44, 45, 46, 47, 48, 49, 50, 51, 52, 53, 54, 55, 56, 57, 58, 59, 60, 61] (by decide +kernel) (by decide +kernel)
set_option maxRecDepth 20000 in
theorem gX8_shoe_X8_isMouse : GoodIn wsX8_shoe (wsV RX8 143 RX8 yX8_isMouse wsX8_isMouse) := goodIn_app (goodIn_of _ (by decide +kernel)) ggX8_shoe_X8_isMouse
set_option maxRecDepth 20000 in
theorem ggX8_shoe_X8_isStep : GoodIn wsX8_shoe wsX8_isStep := goodIn_r _ [19, 12, 13, 14, 10, 15, 38, 39, 40, 41, 42, 43, 44, 45, 46, 47, 48, 49, 50, 51, 52, 53, 54, 55, 56, 57, 58, 59, 60, 61] (by decide +kernel) (by decide +kernel)
set_option maxRecDepth 20000 in
theorem gX8_shoe_X8_isStep : GoodIn wsX8_shoe (wsV RX8 152 RX8 yX8_isStep wsX8_isStep) := goodIn_app (goodIn_of _ (by decide +kernel)) ggX8_shoe_X8_isStep
set_option maxRecDepth 20000 in
theorem ggX8_shoe_X8_in : GoodIn wsX8_shoe wsX8_in := goodIn_r _ [15] (by decide +kernel) (by decide +kernel)
set_option maxRecDepth 20000 in
theorem gX8_shoe_X8_in : GoodIn wsX8_shoe (va_wsS RX8 54 yX8_in wsX8_in) := goodIn_app (goodIn_of _ (by decide +kernel)) ggX8_shoe_X8_in
set_option maxRecDepth 20000 in
theorem ggX8_shoe_X8_isPart : GoodIn wsX8_shoe wsX8_isPart := goodIn_r _ [22] (by decide +kernel) (by decide +kernel)
set_option maxRecDepth 20000 in
theorem gX8_shoe_X8_isPart : GoodIn wsX8_shoe (va_wsS RX8 188 yX8_isPart wsX8_isPart) := goodIn_app (goodIn_of _ (by decide +kernel)) ggX8_shoe_X8_isPart
set_option maxRecDepth 20000 in
theorem ggX8_shoe_X8_dangerBy : GoodIn wsX8_shoe wsX8_dangerBy := goodIn_r _ [25] (by decide +kernel) (by decide +kernel)
set_option maxRecDepth 20000 in
theorem gX8_shoe_X8_dangerBy : GoodIn wsX8_shoe (va_wsS RX8 155 yX8_dangerBy wsX8_dangerBy) := goodIn_app (goodIn_of _ (by decide +kernel)) ggX8_shoe_X8_dangerBy
set_option maxRecDepth 20000 in
theorem ggX8_shoe_X8_choose : GoodIn wsX8_shoe wsX8_choose := goodIn_r _ [28] (by decide +kernel) (by decide +kernel)
set_option maxRecDepth 20000 in
theorem gX8_shoe_X8_choose : GoodIn wsX8_shoe (va_wsS RX8 245 yX8_choose wsX8_choose) := goodIn_app (goodIn_of _ (by decide +kernel)) ggX8_shoe_X8_choose
set_option maxRecDepth 20000 in
theorem ggX8_shoe_X8_power : GoodIn wsX8_shoe wsX8_power := goodIn_r _ [31] (by decide +kernel) (by decide +kernel)
set_option maxRecDepth 20000 in
theorem gX8_shoe_X8_power : GoodIn wsX8_shoe (va_wsS RX8 195 yX8_power wsX8_power) := goodIn_app (goodIn_of _ (by decide +kernel)) ggX8_shoe_X8_power
set_option maxRecDepth 20000 in
theorem ggX8_shoe_X8_part : GoodIn wsX8_shoe wsX8_part := goodIn_r _ [34, 35, 36, 10, 37] (by decide +kernel) (by decide +kernel)
set_option maxRecDepth 20000 in
theorem gX8_shoe_X8_part : GoodIn wsX8_shoe (va_wsS RX8 199 yX8_part wsX8_part) := goodIn_app (goodIn_of _ (by decide +kernel)) ggX8_shoe_X8_part
set_option maxRecDepth 20000 in
theorem ggX8_callOff_X8_in : GoodIn wsX8_callOff wsX8_in := goodIn_r _ [7] (by decide +kernel) (by decide +kernel)
set_option maxRecDepth 20000 in
theorem gX8_callOff_X8_in : GoodIn wsX8_callOff (va_wsS RX8 54 yX8_in wsX8_in) := goodIn_app (goodIn_of _ (by decide +kernel)) ggX8_callOff_X8_in
set_option maxRecDepth 20000 in
theorem ggX8_callOff_X8_isPart : GoodIn wsX8_callOff wsX8_isPart := goodIn_r _ [10] (by decide +kernel) (by decide +kernel)
set_option maxRecDepth 20000 in
theorem gX8_callOff_X8_isPart : GoodIn wsX8_callOff (va_wsS RX8 188 yX8_isPart wsX8_isPart) := goodIn_app (goodIn_of _ (by decide +kernel)) ggX8_callOff_X8_isPart
set_option maxRecDepth 20000 in
theorem ggX8_callOff_X8_part : GoodIn wsX8_callOff wsX8_part := goodIn_r _ [13, 14, 15, 6, 16] (by decide +kernel) (by decide +kernel)
set_option maxRecDepth 20000 in
theorem gX8_callOff_X8_part : GoodIn wsX8_callOff (va_wsS RX8 199 yX8_part wsX8_part) := goodIn_app (goodIn_of _ (by decide +kernel)) ggX8_callOff_X8_part
set_option maxRecDepth 20000 in
theorem ggX8_seen_X8_isStep : GoodIn wsX8_seen wsX8_isStep := goodIn_r _ [9, 10, 11, 12, 8, 13, 18, 19, 20, 21, 22, 23, 24, 25, 26, 27, 28, 29, 30, 31, 32, 33, 34, 35, 36, 37, 38, 39, 40, 41] (by decide +kernel) (by decide +kernel)
set_option maxRecDepth 20000 in
theorem gX8_seen_X8_isStep : GoodIn wsX8_seen (wsV RX8 152 RX8 yX8_isStep wsX8_isStep) := goodIn_app (goodIn_of _ (by decide +kernel)) ggX8_seen_X8_isStep
set_option maxRecDepth 20000 in
theorem ggX8_seen_X8_isMouse : GoodIn wsX8_seen wsX8_isMouse := goodIn_r _ [17, 10, 11, 12, 8, 13, 18, 19, 20, 21, 22, 23, 24, 25, 26, 27, 28, 29, 30, 31, 32, 33, 34, 35, 36, 37, 38, 39, 40, 41] (by decide +kernel) (by decide +kernel)
set_option maxRecDepth 20000 in
theorem gX8_seen_X8_isMouse : GoodIn wsX8_seen (wsV RX8 143 RX8 yX8_isMouse wsX8_isMouse) := goodIn_app (goodIn_of _ (by decide +kernel)) ggX8_seen_X8_isMouse
set_option maxRecDepth 20000 in
theorem ggX8_couldBe_X8_dangerTo : GoodIn wsX8_couldBe wsX8_dangerTo := goodIn_r _ [9, 10, 11, 12, 13, 8, 14, 15, 16, 17, 18, 19, 20, 21, 22, 23, 24, 25, 26, 27, 28, 29, 30, 31, 32, 33, 34, 35, 36, 37, 38] (by decide +kernel) (by decide +kernel)
set_option maxRecDepth 20000 in
theorem gX8_couldBe_X8_dangerTo : GoodIn wsX8_couldBe (wsV RX8 159 RX8 yX8_dangerTo wsX8_dangerTo) := goodIn_app (goodIn_of _ (by decide +kernel)) ggX8_couldBe_X8_dangerTo
set_option maxRecDepth 20000 in
theorem ggX8_teams_X8_in : GoodIn wsX8_teams wsX8_in := goodIn_r _ [6] (by decide +kernel) (by decide +kernel)
set_option maxRecDepth 20000 in
theorem gX8_teams_X8_in : GoodIn wsX8_teams (va_wsS RX8 54 yX8_in wsX8_in) := goodIn_app (goodIn_of _ (by decide +kernel)) ggX8_teams_X8_in
set_option maxRecDepth 20000 in
theorem ggX8_teams_X8_rowsOf : GoodIn wsX8_teams wsX8_rowsOf := goodIn_r _ [9] (by decide +kernel) (by decide +kernel)
set_option maxRecDepth 20000 in
theorem gX8_teams_X8_rowsOf : GoodIn wsX8_teams (va_wsS RX8 208 yX8_rowsOf wsX8_rowsOf) := goodIn_app (goodIn_of _ (by decide +kernel)) ggX8_teams_X8_rowsOf
set_option maxRecDepth 20000 in
theorem ggX8_teams_X8_rowOf : GoodIn wsX8_teams wsX8_rowOf := goodIn_r _ [13, 2, 14, 35, 36, 37, 38, 39, 40, 41, 42, 43, 44, 45, 46, 47, 48, 49, 50, 51, 52, 53, 54, 55, 56, 57, 58] (by decide +kernel) (by decide +kernel)
set_option maxRecDepth 20000 in
theorem gX8_teams_X8_rowOf : GoodIn wsX8_teams (wsV RX8 211 RX8 yX8_rowOf wsX8_rowOf) := goodIn_app (goodIn_of _ (by decide +kernel)) ggX8_teams_X8_rowOf
set_option maxRecDepth 20000 in
theorem ggX8_teams_X8_couldBe : GoodIn wsX8_teams wsX8_couldBe := goodIn_r _ [18, 19, 14, 20, 21, 22, 23, 24, 5, 25, 26, 27, 28, 29, 30, 35, 36, 37, 38, 39, 40, 41, 42, 43, 44, 45, 46, 47, 48, 49, 50, 51, 52, 53, 54, 55, 56, 57, 58] (by decide +kernel) (by decide +kernel)
set_option maxRecDepth 20000 in
theorem gX8_teams_X8_couldBe : GoodIn wsX8_teams (wsV RX8 249 RX8 yX8_couldBe wsX8_couldBe) := goodIn_app (goodIn_of _ (by decide +kernel)) ggX8_teams_X8_couldBe
set_option maxRecDepth 20000 in
theorem ggX8_teams_X8_rowSet : GoodIn wsX8_teams wsX8_rowSet := goodIn_r _ [34, 2, 14, 35, 36, 37, 38, 39, 40, 41, 42, 43, 44, 45, 46, 47, 48, 49, 50, 51, 52, 53, 54, 55, 56, 57, 58] (by decide +kernel) (by decide +kernel)
set_option maxRecDepth 20000 in
theorem gX8_teams_X8_rowSet : GoodIn wsX8_teams (wsV RX8 252 RX8 yX8_rowSet wsX8_rowSet) := goodIn_app (goodIn_of _ (by decide +kernel)) ggX8_teams_X8_rowSet
set_option maxRecDepth 20000 in
theorem ggX8_teamOf_X8_isStep : GoodIn wsX8_teamOf wsX8_isStep := goodIn_r _ [8, 2, 9, 10, 7, 11, 35, 36, 37, 38, 39, 40, 41, 42, 43, 44, 45, 46, 47, 48, 49, 50, 51, 52, 53, 54, 55, 56, 57, 58] (by decide +kernel) (by decide +kernel)
set_option maxRecDepth 20000 in
theorem gX8_teamOf_X8_isStep : GoodIn wsX8_teamOf (wsV RX8 152 RX8 yX8_isStep wsX8_isStep) := goodIn_app (goodIn_of _ (by decide +kernel)) ggX8_teamOf_X8_isStep
set_option maxRecDepth 20000 in
theorem ggX8_teamOf_X8_rowsOf : GoodIn wsX8_teamOf wsX8_rowsOf := goodIn_r _ [14] (by decide +kernel) (by decide +kernel)
set_option maxRecDepth 20000 in
theorem gX8_teamOf_X8_rowsOf : GoodIn wsX8_teamOf (va_wsS RX8 208 yX8_rowsOf wsX8_rowsOf) := goodIn_app (goodIn_of _ (by decide +kernel)) ggX8_teamOf_X8_rowsOf
set_option maxRecDepth 20000 in
theorem ggX8_teamOf_X8_rowOf : GoodIn wsX8_teamOf wsX8_rowOf := goodIn_r _ [18, 2, 3, 35, 36, 37, 38, 39, 40, 41, 42, 43, 44, 45, 46, 47, 48, 49, 50, 51, 52, 53, 54, 55, 56, 57, 58] (by decide +kernel) (by decide +kernel)
set_option maxRecDepth 20000 in
theorem gX8_teamOf_X8_rowOf : GoodIn wsX8_teamOf (wsV RX8 211 RX8 yX8_rowOf wsX8_rowOf) := goodIn_app (goodIn_of _ (by decide +kernel)) ggX8_teamOf_X8_rowOf
set_option maxRecDepth 20000 in
theorem ggX8_teamOf_X8_couldBe : GoodIn wsX8_teamOf wsX8_couldBe := goodIn_r _ [22, 23, 3, 24, 25, 26, 27, 28, 7, 29, 30, 31, 32, 33, 34, 35, 36, 37, 38, 39, 40, 41, 42, 43, 44, 45, 46, 47, 48, 49, 50, 51, 52, 53, 54, 55, 56, 57, 58] (by decide +kernel) (by decide +kernel)
set_option maxRecDepth 20000 in
theorem gX8_teamOf_X8_couldBe : GoodIn wsX8_teamOf (wsV RX8 249 RX8 yX8_couldBe wsX8_couldBe) := goodIn_app (goodIn_of _ (by decide +kernel)) ggX8_teamOf_X8_couldBe
set_option maxRecDepth 20000 in
theorem ggX8_count_X8_in : GoodIn wsX8_count wsX8_in := goodIn_r _ [10] (by decide +kernel) (by decide +kernel)
set_option maxRecDepth 20000 in
theorem gX8_count_X8_in : GoodIn wsX8_count (va_wsS RX8 54 yX8_in wsX8_in) := goodIn_app (goodIn_of _ (by decide +kernel)) ggX8_count_X8_in
set_option maxRecDepth 20000 in
theorem ggX8_count_X8_done : GoodIn wsX8_count wsX8_done := goodIn_r _ [14, 2, 3, 15, 16, 17, 18, 19, 20, 21, 22, 23, 24, 25, 26, 27, 28, 29, 30, 31, 32, 33, 34, 35, 36, 37, 38] (by decide +kernel) (by decide +kernel)
set_option maxRecDepth 20000 in
theorem gX8_count_X8_done : GoodIn wsX8_count (wsV RX8 166 RX8 yX8_done wsX8_done) := goodIn_app (goodIn_of _ (by decide +kernel)) ggX8_count_X8_done
set_option maxRecDepth 20000 in
theorem ggJ0_length_8abf5_J0_coder_7d493 : GoodIn wsJ0_length_8abf5 wsJ0_coder_7d493 := goodIn_r _ [6, 7, 8] (by decide +kernel) (by decide +kernel)
set_option maxRecDepth 20000 in
theorem gJ0_length_8abf5_J0_coder_7d493 : GoodIn wsJ0_length_8abf5 (wsV RJ0 335 RJ0 yJ0_coder_7d493 wsJ0_coder_7d493) := goodIn_app (goodIn_of _ (by decide +kernel)) ggJ0_length_8abf5_J0_coder_7d493
set_option maxRecDepth 20000 in
theorem ggJ0_charAt_5068e_J0_isLatin1_aae02 : GoodIn wsJ0_charAt_5068e wsJ0_isLatin1_aae02 := goodIn_r _ [6, 7, 8] (by decide +kernel) (by decide +kernel)
set_option maxRecDepth 20000 in
theorem gJ0_charAt_5068e_J0_isLatin1_aae02 : GoodIn wsJ0_charAt_5068e (wsV RJ0 492 RJ0 yJ0_isLatin1_aae02 wsJ0_isLatin1_aae02) := goodIn_app (goodIn_of _ (by decide +kernel)) ggJ0_charAt_5068e_J0_isLatin1_aae02
set_option maxRecDepth 20000 in
theorem ggJ0_charAt_5068e_J1_charAt_3b067 : GoodIn wsJ0_charAt_5068e wsJ1_charAt_3b067 := goodIn_r _ [12, 13, 14, 5, 15, 16, 17, 18, 19, 20] (by decide +kernel) (by decide +kernel)
set_option maxRecDepth 20000 in
theorem gJ0_charAt_5068e_J1_charAt_3b067 : GoodIn wsJ0_charAt_5068e (va_wsS RJ0 495 yJ1_charAt_3b067 wsJ1_charAt_3b067) := goodIn_app (goodIn_of _ (by decide +kernel)) ggJ0_charAt_5068e_J1_charAt_3b067
set_option maxRecDepth 20000 in
theorem ggJ0_charAt_5068e_J2_charAt_3b067 : GoodIn wsJ0_charAt_5068e wsJ2_charAt_3b067 := goodIn_r _ [24, 25, 26, 23, 27, 28, 29, 30, 31, 14, 5, 15, 16, 17, 18, 19, 20, 32, 33, 34, 35, 36, 37] (by decide +kernel) (by decide +kernel)
set_option maxRecDepth 20000 in
theorem gJ0_charAt_5068e_J2_charAt_3b067 : GoodIn wsJ0_charAt_5068e (va_wsS RJ0 498 yJ2_charAt_3b067 wsJ2_charAt_3b067) := goodIn_app (goodIn_of _ (by decide +kernel)) ggJ0_charAt_5068e_J2_charAt_3b067
set_option maxRecDepth 20000 in
theorem ggJ0_checkIndex_df160_J3_checkIndex_8e157 : GoodIn wsJ0_checkIndex_df160 wsJ3_checkIndex_8e157 := goodIn_r _ [5] (by decide +kernel) (by decide +kernel)
set_option maxRecDepth 20000 in
theorem gJ0_checkIndex_df160_J3_checkIndex_8e157 : GoodIn wsJ0_checkIndex_df160 (va_wsS RJ0 1059 yJ3_checkIndex_8e157 wsJ3_checkIndex_8e157) := goodIn_app (goodIn_of _ (by decide +kernel)) ggJ0_checkIndex_df160_J3_checkIndex_8e157
set_option maxRecDepth 20000 in
theorem ggJ1_charAt_3b067_J0_checkIndex_df160 : GoodIn wsJ1_charAt_3b067 wsJ0_checkIndex_df160 := goodIn_r _ [4, 5, 6, 7, 8, 9] (by decide +kernel) (by decide +kernel)
set_option maxRecDepth 20000 in
theorem gJ1_charAt_3b067_J0_checkIndex_df160 : GoodIn wsJ1_charAt_3b067 (va_wsS RJ1 9 yJ0_checkIndex_df160 wsJ0_checkIndex_df160) := goodIn_app (goodIn_of _ (by decide +kernel)) ggJ1_charAt_3b067_J0_checkIndex_df160
set_option maxRecDepth 20000 in
theorem ggJ2_getChar_3b067_J2_length_9d52b : GoodIn wsJ2_getChar_3b067 wsJ2_length_9d52b := goodIn_r _ [7] (by decide +kernel) (by decide +kernel)
set_option maxRecDepth 20000 in
theorem gJ2_getChar_3b067_J2_length_9d52b : GoodIn wsJ2_getChar_3b067 (va_wsS RJ2 48 yJ2_length_9d52b wsJ2_length_9d52b) := goodIn_app (goodIn_of _ (by decide +kernel)) ggJ2_getChar_3b067_J2_length_9d52b
set_option maxRecDepth 20000 in
theorem ggJ2_charAt_3b067_J2_checkIndex_2214a : GoodIn wsJ2_charAt_3b067 wsJ2_checkIndex_2214a := goodIn_r _ [4, 5, 6, 3, 7, 8, 9, 10, 11, 12, 13, 14, 15, 16] (by decide +kernel) (by decide +kernel)
set_option maxRecDepth 20000 in
theorem gJ2_charAt_3b067_J2_checkIndex_2214a : GoodIn wsJ2_charAt_3b067 (va_wsS RJ2 67 yJ2_checkIndex_2214a wsJ2_checkIndex_2214a) := goodIn_app (goodIn_of _ (by decide +kernel)) ggJ2_charAt_3b067_J2_checkIndex_2214a
set_option maxRecDepth 20000 in
theorem ggJ2_charAt_3b067_J2_getChar_3b067 : GoodIn wsJ2_charAt_3b067 wsJ2_getChar_3b067 := goodIn_r _ [19, 20, 21, 22, 5, 6, 3, 7] (by decide +kernel) (by decide +kernel)
set_option maxRecDepth 20000 in
theorem gJ2_charAt_3b067_J2_getChar_3b067 : GoodIn wsJ2_charAt_3b067 (va_wsS RJ2 71 yJ2_getChar_3b067 wsJ2_getChar_3b067) := goodIn_app (goodIn_of _ (by decide +kernel)) ggJ2_charAt_3b067_J2_getChar_3b067
set_option maxRecDepth 20000 in
theorem ggJ2_checkIndex_2214a_J2_length_9d52b : GoodIn wsJ2_checkIndex_2214a wsJ2_length_9d52b := goodIn_r _ [4] (by decide +kernel) (by decide +kernel)
set_option maxRecDepth 20000 in
theorem gJ2_checkIndex_2214a_J2_length_9d52b : GoodIn wsJ2_checkIndex_2214a (va_wsS RJ2 48 yJ2_length_9d52b wsJ2_length_9d52b) := goodIn_app (goodIn_of _ (by decide +kernel)) ggJ2_checkIndex_2214a_J2_length_9d52b
set_option maxRecDepth 20000 in
theorem ggJ2_checkIndex_2214a_J0_checkIndex_df160 : GoodIn wsJ2_checkIndex_2214a wsJ0_checkIndex_df160 := goodIn_r _ [8, 9, 10, 11, 12, 13] (by decide +kernel) (by decide +kernel)
set_option maxRecDepth 20000 in
theorem gJ2_checkIndex_2214a_J0_checkIndex_df160 : GoodIn wsJ2_checkIndex_2214a (va_wsS RJ2 414 yJ0_checkIndex_df160 wsJ0_checkIndex_df160) := goodIn_app (goodIn_of _ (by decide +kernel)) ggJ2_checkIndex_2214a_J0_checkIndex_df160
abbrev vwCl : List vw_C := [(RX0, TX0, 12), (RX1, TX1, 5), (RX2, TX2, 4), (RX3, TX3, 3), (RX4, TX4, 4), (RX5, TX5, 6), (RX6, TX6, 3), (RX7, TX7, 10), (RX8, TX8, 24)]
