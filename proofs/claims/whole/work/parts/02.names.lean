/-! ===== BEGIN words of one list among another's, by their places ===== -/
theorem goodIn_r {big : List Cond} (ws : List Cond) (ps : List Nat) (hp : ws = ps.filterMap (fun i => big[i]?)) (h : ws.all goodWord = true) : GoodIn big ws := by
  intro w hw
  have h1 := List.all_eq_true.mp h w hw
  rw [hp] at hw
  obtain ⟨i, -, hi⟩ := List.mem_filterMap.mp hw
  have hm : w ∈ big := by first | exact List.mem_of_getElem? hi | exact List.getElem?_mem hi
  exact ⟨hm, good_of_word h1⟩
theorem goodIn_app {big a b : List Cond} (ha : GoodIn big a) (hb : GoodIn big b) : GoodIn big (a ++ b) := fun w h => (List.mem_append.mp h).elim (ha w) (hb w)
theorem goodIn_ca {big a b : List Cond} {c : Cond} (ha : GoodIn big (c :: a)) (hb : GoodIn big b) : GoodIn big (c :: (a ++ b)) := fun w h => (List.mem_cons.mp h).elim (fun e => ha w (List.mem_cons.mpr (Or.inl e))) (fun h => (List.mem_append.mp h).elim (fun h => ha w (List.mem_cons.mpr (Or.inr h))) (hb w))
theorem goodIn_sub {big ws : List Cond} (hm : ∀ w ∈ ws, w ∈ big) (h : ws.all goodWord = true) : GoodIn big ws := fun w hw => ⟨hm w hw, good_of_word (List.all_eq_true.mp h w hw)⟩
/-! ===== END ===== -/

/-! ===== BEGIN printed: names, fields, word lists, decode rows ===== -/
def RX0 : String := "NameBook$Book"
def TX0 : u_T := fun k => match k with
  | 0 => ("NameBook$Book", "year", "I", false)
  | 1 => ("NameBook$Book", "z", "I", false)
  | 2 => ("NameBook$Book", "taskCount", "I", false)
  | 3 => ("NameBook$Book", "personCount", "I", false)
  | 4 => ("NameBook$Book", "worths", "[I", true)
  | 5 => ("NameBook$Book", "gone", "[I", true)
  | 6 => ("NameBook$Book", "kinds", "[I", true)
  | 7 => ("NameBook$Book", "owners", "[I", true)
  | 8 => ("NameBook$Book", "hours", "[I", true)
  | 9 => ("NameBook$Book", "needed", "[I", true)
  | 10 => ("NameBook$Book", "borne", "[I", true)
  | 11 => ("NameBook$Book", "ages", "[I", true)
  | 12 => ("NameBook$Book", "hands", "[I", true)
  | 13 => ("NameBook$Book", "helped", "[I", true)
  | _ => ("NameBook$Book", "spots", "[I", true)
def tyX0 : Nat → FieldType := fun k => match k with
  | 0 => .int
  | 1 => .int
  | 2 => .int
  | 3 => .int
  | 4 => .array .int
  | 5 => .array .int
  | 6 => .array .int
  | 7 => .array .int
  | 8 => .array .int
  | 9 => .array .int
  | 10 => .array .int
  | 11 => .array .int
  | 12 => .array .int
  | 13 => .array .int
  | _ => .array .int
abbrev wsX00 : List Cond := u_ws RX0 TX0 15
theorem nmX0 : ∀ a, a < 15 → ∀ b, b < 15 → a ≠ b → (TX0 a).2.1 ≠ (TX0 b).2.1 := by decide +kernel
theorem tyX0_ok : ∀ k, k < 15 → parseFieldDescriptor (TX0 k).2.2.1 = some (tyX0 k) := by decide +kernel
abbrev cX0_init : ByteArray := prog_2_method_1_code
def yX0_init : MethodName := ⟨RX0, "<init>", "()V"⟩
abbrev cX0_setTo : ByteArray := prog_2_method_2_code
def yX0_setTo : MethodName := ⟨RX0, "setTo", "(LNameBook$Book;)V"⟩
abbrev cX0_draw : ByteArray := prog_2_method_3_code
def yX0_draw : MethodName := ⟨RX0, "draw", "()I"⟩
abbrev cX0_hasTask : ByteArray := prog_2_method_4_code
def yX0_hasTask : MethodName := ⟨RX0, "hasTask", "(I)Z"⟩
abbrev cX0_hasPerson : ByteArray := prog_2_method_5_code
def yX0_hasPerson : MethodName := ⟨RX0, "hasPerson", "(I)Z"⟩
abbrev cX0_addTask : ByteArray := prog_2_method_6_code
def yX0_addTask : MethodName := ⟨RX0, "addTask", "(IIII)I"⟩
abbrev cX0_addPerson : ByteArray := prog_2_method_7_code
def yX0_addPerson : MethodName := ⟨RX0, "addPerson", "(III)I"⟩
abbrev cX0_isEnded : ByteArray := prog_2_method_8_code
def yX0_isEnded : MethodName := ⟨RX0, "isEnded", "(I)Z"⟩
abbrev cX0_endedTasks : ByteArray := prog_2_method_9_code
def yX0_endedTasks : MethodName := ⟨RX0, "endedTasks", "()I"⟩
abbrev cX0_hoursOfAll : ByteArray := prog_2_method_10_code
def yX0_hoursOfAll : MethodName := ⟨RX0, "hoursOfAll", "()I"⟩
abbrev cX0_growthOf : ByteArray := prog_2_method_11_code
def yX0_growthOf : MethodName := ⟨RX0, "growthOf", "(I)I"⟩
abbrev cX0_workOf : ByteArray := prog_2_method_12_code
def yX0_workOf : MethodName := ⟨RX0, "workOf", "(II)I"⟩
abbrev cX0_isWaiting : ByteArray := prog_2_method_13_code
def yX0_isWaiting : MethodName := ⟨RX0, "isWaiting", "(II)Z"⟩
abbrev cX0_openNames : ByteArray := prog_2_method_14_code
def yX0_openNames : MethodName := ⟨RX0, "openNames", "()I"⟩
abbrev cX0_isOpen : ByteArray := prog_2_method_15_code
def yX0_isOpen : MethodName := ⟨RX0, "isOpen", "(I)Z"⟩
abbrev cX0_freeNames : ByteArray := prog_2_method_16_code
def yX0_freeNames : MethodName := ⟨RX0, "freeNames", "()I"⟩
abbrev cX0_bearerOf : ByteArray := prog_2_method_17_code
def yX0_bearerOf : MethodName := ⟨RX0, "bearerOf", "(I)I"⟩
abbrev cX0_mayTake : ByteArray := prog_2_method_18_code
def yX0_mayTake : MethodName := ⟨RX0, "mayTake", "(II)Z"⟩
abbrev cX0_tasksOf : ByteArray := prog_2_method_19_code
def yX0_tasksOf : MethodName := ⟨RX0, "tasksOf", "(I)I"⟩
abbrev cX0_hoursOf : ByteArray := prog_2_method_20_code
def yX0_hoursOf : MethodName := ⟨RX0, "hoursOf", "(I)I"⟩
abbrev cX0_mostWork : ByteArray := prog_2_method_21_code
def yX0_mostWork : MethodName := ⟨RX0, "mostWork", "(III)I"⟩
abbrev cX0_mostWorkOf : ByteArray := prog_2_method_22_code
def yX0_mostWorkOf : MethodName := ⟨RX0, "mostWorkOf", "(II)I"⟩
abbrev cX0_isAtHand : ByteArray := prog_2_method_23_code
def yX0_isAtHand : MethodName := ⟨RX0, "isAtHand", "(I)Z"⟩
abbrev cX0_handOf : ByteArray := prog_2_method_24_code
def yX0_handOf : MethodName := ⟨RX0, "handOf", "(I)I"⟩
abbrev cX0_findHands : ByteArray := prog_2_method_25_code
def yX0_findHands : MethodName := ⟨RX0, "findHands", "([I)V"⟩
abbrev cX0_endedWorth : ByteArray := prog_2_method_26_code
def yX0_endedWorth : MethodName := ⟨RX0, "endedWorth", "()I"⟩
abbrev cX0_worthOf : ByteArray := prog_2_method_27_code
def yX0_worthOf : MethodName := ⟨RX0, "worthOf", "(I)I"⟩
abbrev cX0_goneOfAll : ByteArray := prog_2_method_28_code
def yX0_goneOfAll : MethodName := ⟨RX0, "goneOfAll", "()I"⟩
def RX1 : String := "NameBook$Giving"
def TX1 : u_T := fun k => match k with
  | 0 => ("NameBook$Giving", "trial", "LNameBook$Book;", true)
  | 1 => ("NameBook$Giving", "walk", "LNameBook$Walk;", true)
  | 2 => ("NameBook$Giving", "takers", "[I", true)
  | 3 => ("NameBook$Giving", "got", "[I", true)
  | 4 => ("NameBook$Giving", "bestGot", "[I", true)
  | 5 => ("NameBook$Giving", "gains", "[I", true)
  | 6 => ("NameBook$Giving", "hopes", "[I", true)
  | 7 => ("NameBook$Giving", "takerCount", "I", false)
  | 8 => ("NameBook$Giving", "sure", "I", false)
  | _ => ("NameBook$Giving", "bestWorth", "I", false)
def tyX1 : Nat → FieldType := fun k => match k with
  | 0 => .object "NameBook$Book"
  | 1 => .object "NameBook$Walk"
  | 2 => .array .int
  | 3 => .array .int
  | 4 => .array .int
  | 5 => .array .int
  | 6 => .array .int
  | 7 => .int
  | 8 => .int
  | _ => .int
abbrev wsX10 : List Cond := u_ws RX1 TX1 10
theorem nmX1 : ∀ a, a < 10 → ∀ b, b < 10 → a ≠ b → (TX1 a).2.1 ≠ (TX1 b).2.1 := by decide +kernel
theorem tyX1_ok : ∀ k, k < 10 → parseFieldDescriptor (TX1 k).2.2.1 = some (tyX1 k) := by decide +kernel
abbrev cX1_init : ByteArray := prog_3_method_1_code
def yX1_init : MethodName := ⟨RX1, "<init>", "(LNameBook$Book;LNameBook$Walk;)V"⟩
abbrev cX1_gather : ByteArray := prog_3_method_2_code
def yX1_gather : MethodName := ⟨RX1, "gather", "(LNameBook$Book;)Z"⟩
abbrev cX1_begin : ByteArray := prog_3_method_3_code
def yX1_begin : MethodName := ⟨RX1, "begin", "(LNameBook$Book;I)V"⟩
abbrev cX1_findGains : ByteArray := prog_3_method_4_code
def yX1_findGains : MethodName := ⟨RX1, "findGains", "(LNameBook$Book;I)V"⟩
abbrev cX1_gainOf : ByteArray := prog_3_method_5_code
def yX1_gainOf : MethodName := ⟨RX1, "gainOf", "(LNameBook$Book;III)I"⟩
abbrev cX1_weighFrom : ByteArray := prog_3_method_6_code
def yX1_weighFrom : MethodName := ⟨RX1, "weighFrom", "(LNameBook$Book;IIII)V"⟩
abbrev cX1_weigh : ByteArray := prog_3_method_7_code
def yX1_weigh : MethodName := ⟨RX1, "weigh", "(LNameBook$Book;I)V"⟩
abbrev cX1_carryOut : ByteArray := prog_3_method_8_code
def yX1_carryOut : MethodName := ⟨RX1, "carryOut", "(LNameBook$Book;)I"⟩
def RX2 : String := "NameBook$Kinds"
def TX2 : u_T := fun k => match k with
  | _ => ("", "", "", false)
def tyX2 : Nat → FieldType := fun k => match k with
  | _ => .int
abbrev wsX20 : List Cond := u_ws RX2 TX2 0
theorem nmX2 : ∀ a, a < 0 → ∀ b, b < 0 → a ≠ b → (TX2 a).2.1 ≠ (TX2 b).2.1 := by decide +kernel
theorem tyX2_ok : ∀ k, k < 0 → parseFieldDescriptor (TX2 k).2.2.1 = some (tyX2 k) := by decide +kernel
abbrev cX2_isKind : ByteArray := prog_4_method_2_code
def yX2_isKind : MethodName := ⟨RX2, "isKind", "(I)Z"⟩
abbrev cX2_isUnder : ByteArray := prog_4_method_3_code
def yX2_isUnder : MethodName := ⟨RX2, "isUnder", "(II)Z"⟩
abbrev cX2_workOf : ByteArray := prog_4_method_4_code
def yX2_workOf : MethodName := ⟨RX2, "workOf", "(III)I"⟩
abbrev cX2_growthOf : ByteArray := prog_4_method_5_code
def yX2_growthOf : MethodName := ⟨RX2, "growthOf", "(III)I"⟩
def RX3 : String := "NameBook$Sheet"
def TX3 : u_T := fun k => match k with
  | 0 => ("NameBook$Sheet", "numbers", "[I", true)
  | 1 => ("NameBook$Sheet", "bits", "I", false)
  | _ => ("NameBook$Sheet", "size", "I", false)
def tyX3 : Nat → FieldType := fun k => match k with
  | 0 => .array .int
  | 1 => .int
  | _ => .int
abbrev wsX30 : List Cond := u_ws RX3 TX3 3
theorem nmX3 : ∀ a, a < 3 → ∀ b, b < 3 → a ≠ b → (TX3 a).2.1 ≠ (TX3 b).2.1 := by decide +kernel
theorem tyX3_ok : ∀ k, k < 3 → parseFieldDescriptor (TX3 k).2.2.1 = some (tyX3 k) := by decide +kernel
abbrev cX3_init : ByteArray := prog_5_method_1_code
def yX3_init : MethodName := ⟨RX3, "<init>", "()V"⟩
abbrev cX3_isMissing : ByteArray := prog_5_method_2_code
def yX3_isMissing : MethodName := ⟨RX3, "isMissing", "()Z"⟩
abbrev cX3_become : ByteArray := prog_5_method_3_code
def yX3_become : MethodName := ⟨RX3, "become", "(II)I"⟩
abbrev cX3_hasRange : ByteArray := prog_5_method_4_code
def yX3_hasRange : MethodName := ⟨RX3, "hasRange", "(II)Z"⟩
abbrev cX3_put : ByteArray := prog_5_method_5_code
def yX3_put : MethodName := ⟨RX3, "put", "(II)V"⟩
def RX4 : String := "NameBook$Tape"
def TX4 : u_T := fun k => match k with
  | 0 => ("NameBook$Tape", "bytes", "[I", true)
  | 1 => ("NameBook$Tape", "length", "I", false)
  | 2 => ("NameBook$Tape", "sort", "I", false)
  | 3 => ("NameBook$Tape", "start", "I", false)
  | 4 => ("NameBook$Tape", "end", "I", false)
  | _ => ("NameBook$Tape", "value", "I", false)
def tyX4 : Nat → FieldType := fun k => match k with
  | 0 => .array .int
  | 1 => .int
  | 2 => .int
  | 3 => .int
  | 4 => .int
  | _ => .int
abbrev wsX40 : List Cond := u_ws RX4 TX4 6
theorem nmX4 : ∀ a, a < 6 → ∀ b, b < 6 → a ≠ b → (TX4 a).2.1 ≠ (TX4 b).2.1 := by decide +kernel
theorem tyX4_ok : ∀ k, k < 6 → parseFieldDescriptor (TX4 k).2.2.1 = some (tyX4 k) := by decide +kernel
abbrev cX4_init : ByteArray := prog_6_method_1_code
def yX4_init : MethodName := ⟨RX4, "<init>", "()V"⟩
abbrev cX4_hasRoomFor : ByteArray := prog_6_method_2_code
def yX4_hasRoomFor : MethodName := ⟨RX4, "hasRoomFor", "(I)Z"⟩
abbrev cX4_append : ByteArray := prog_6_method_3_code
def yX4_append : MethodName := ⟨RX4, "append", "(II)I"⟩
abbrev cX4_clear : ByteArray := prog_6_method_4_code
def yX4_clear : MethodName := ⟨RX4, "clear", "()I"⟩
abbrev cX4_readInto : ByteArray := prog_6_method_5_code
def yX4_readInto : MethodName := ⟨RX4, "readInto", "(LNameBook$Book;)I"⟩
abbrev cX4_advance : ByteArray := prog_6_method_6_code
def yX4_advance : MethodName := ⟨RX4, "advance", "()V"⟩
abbrev cX4_readNumber : ByteArray := prog_6_method_7_code
def yX4_readNumber : MethodName := ⟨RX4, "readNumber", "()V"⟩
abbrev cX4_isLetter : ByteArray := prog_6_method_8_code
def yX4_isLetter : MethodName := ⟨RX4, "isLetter", "(I)Z"⟩
abbrev cX4_isDigit : ByteArray := prog_6_method_9_code
def yX4_isDigit : MethodName := ⟨RX4, "isDigit", "(I)Z"⟩
abbrev cX4_isWord : ByteArray := prog_6_method_10_code
def yX4_isWord : MethodName := ⟨RX4, "isWord", "(Ljava/lang/String;)Z"⟩
abbrev cX4_passWord : ByteArray := prog_6_method_11_code
def yX4_passWord : MethodName := ⟨RX4, "passWord", "(Ljava/lang/String;)Z"⟩
abbrev cX4_passNumber : ByteArray := prog_6_method_12_code
def yX4_passNumber : MethodName := ⟨RX4, "passNumber", "(II)I"⟩
abbrev cX4_readItem : ByteArray := prog_6_method_13_code
def yX4_readItem : MethodName := ⟨RX4, "readItem", "(LNameBook$Book;)Z"⟩
abbrev cX4_kindHere : ByteArray := prog_6_method_14_code
def yX4_kindHere : MethodName := ⟨RX4, "kindHere", "()I"⟩
abbrev cX4_readName : ByteArray := prog_6_method_15_code
def yX4_readName : MethodName := ⟨RX4, "readName", "(LNameBook$Book;)Z"⟩
abbrev cX4_readTask : ByteArray := prog_6_method_16_code
def yX4_readTask : MethodName := ⟨RX4, "readTask", "(LNameBook$Book;I)Z"⟩
abbrev cX4_readPerson : ByteArray := prog_6_method_17_code
def yX4_readPerson : MethodName := ⟨RX4, "readPerson", "(LNameBook$Book;)Z"⟩
def RX5 : String := "NameBook$Walk"
def TX5 : u_T := fun k => match k with
  | _ => ("NameBook$Walk", "hand", "[I", true)
def tyX5 : Nat → FieldType := fun k => match k with
  | _ => .array .int
abbrev wsX50 : List Cond := u_ws RX5 TX5 1
theorem nmX5 : ∀ a, a < 1 → ∀ b, b < 1 → a ≠ b → (TX5 a).2.1 ≠ (TX5 b).2.1 := by decide +kernel
theorem tyX5_ok : ∀ k, k < 1 → parseFieldDescriptor (TX5 k).2.2.1 = some (tyX5 k) := by decide +kernel
abbrev cX5_init : ByteArray := prog_7_method_1_code
def yX5_init : MethodName := ⟨RX5, "<init>", "()V"⟩
abbrev cX5_go : ByteArray := prog_7_method_2_code
def yX5_go : MethodName := ⟨RX5, "go", "(LNameBook$Book;I)V"⟩
abbrev cX5_bearersWork : ByteArray := prog_7_method_3_code
def yX5_bearersWork : MethodName := ⟨RX5, "bearersWork", "(LNameBook$Book;)V"⟩
abbrev cX5_helpersWork : ByteArray := prog_7_method_4_code
def yX5_helpersWork : MethodName := ⟨RX5, "helpersWork", "(LNameBook$Book;)V"⟩
abbrev cX5_workOn : ByteArray := prog_7_method_5_code
def yX5_workOn : MethodName := ⟨RX5, "workOn", "(LNameBook$Book;II)V"⟩
abbrev cX5_tasksGrow : ByteArray := prog_7_method_6_code
def yX5_tasksGrow : MethodName := ⟨RX5, "tasksGrow", "(LNameBook$Book;)V"⟩
abbrev cX5_personsAge : ByteArray := prog_7_method_7_code
def yX5_personsAge : MethodName := ⟨RX5, "personsAge", "(LNameBook$Book;)V"⟩
abbrev cX5_leave : ByteArray := prog_7_method_8_code
def yX5_leave : MethodName := ⟨RX5, "leave", "(LNameBook$Book;I)V"⟩
def RX6 : String := "NameBook"
def TX6 : u_T := fun k => match k with
  | 0 => ("NameBook", "book", "LNameBook$Book;", true)
  | 1 => ("NameBook", "kept", "LNameBook$Book;", true)
  | 2 => ("NameBook", "trial", "LNameBook$Book;", true)
  | 3 => ("NameBook", "walk", "LNameBook$Walk;", true)
  | 4 => ("NameBook", "giving", "LNameBook$Giving;", true)
  | 5 => ("NameBook", "tape", "LNameBook$Tape;", true)
  | 6 => ("NameBook", "sheets", "[LNameBook$Sheet;", true)
  | 7 => ("NameBook", "told", "[I", true)
  | _ => ("NameBook", "isKept", "Z", false)
def tyX6 : Nat → FieldType := fun k => match k with
  | 0 => .object "NameBook$Book"
  | 1 => .object "NameBook$Book"
  | 2 => .object "NameBook$Book"
  | 3 => .object "NameBook$Walk"
  | 4 => .object "NameBook$Giving"
  | 5 => .object "NameBook$Tape"
  | 6 => .array (.object "NameBook$Sheet")
  | 7 => .array .int
  | _ => .boolean
abbrev wsX60 : List Cond := u_ws RX6 TX6 9
theorem nmX6 : ∀ a, a < 9 → ∀ b, b < 9 → a ≠ b → (TX6 a).2.1 ≠ (TX6 b).2.1 := by decide +kernel
theorem tyX6_ok : ∀ k, k < 9 → parseFieldDescriptor (TX6 k).2.2.1 = some (tyX6 k) := by decide +kernel
abbrev cX6_init : ByteArray := prog_1_method_1_code
def yX6_init : MethodName := ⟨RX6, "<init>", "()V"⟩
abbrev cX6_worth : ByteArray := prog_1_method_2_code
def yX6_worth : MethodName := ⟨RX6, "worth", "(II)I"⟩
abbrev cX6_task : ByteArray := prog_1_method_3_code
def yX6_task : MethodName := ⟨RX6, "task", "(III)I"⟩
abbrev cX6_taskOf : ByteArray := prog_1_method_4_code
def yX6_taskOf : MethodName := ⟨RX6, "taskOf", "(II)I"⟩
abbrev cX6_turn : ByteArray := prog_1_method_5_code
def yX6_turn : MethodName := ⟨RX6, "turn", "(II)I"⟩
abbrev cX6_needs : ByteArray := prog_1_method_6_code
def yX6_needs : MethodName := ⟨RX6, "needs", "(II)I"⟩
abbrev cX6_strike : ByteArray := prog_1_method_7_code
def yX6_strike : MethodName := ⟨RX6, "strike", "(I)I"⟩
abbrev cX6_nameOf : ByteArray := prog_1_method_8_code
def yX6_nameOf : MethodName := ⟨RX6, "nameOf", "(II)I"⟩
abbrev cX6_rings : ByteArray := prog_1_method_9_code
def yX6_rings : MethodName := ⟨RX6, "rings", "()I"⟩
abbrev cX6_waits : ByteArray := prog_1_method_10_code
def yX6_waits : MethodName := ⟨RX6, "waits", "(I)I"⟩
abbrev cX6_person : ByteArray := prog_1_method_11_code
def yX6_person : MethodName := ⟨RX6, "person", "(I)I"⟩
abbrev cX6_of : ByteArray := prog_1_method_12_code
def yX6_of : MethodName := ⟨RX6, "of", "(II)I"⟩
abbrev cX6_change : ByteArray := prog_1_method_13_code
def yX6_change : MethodName := ⟨RX6, "change", "(III)I"⟩
abbrev cX6_helps : ByteArray := prog_1_method_14_code
def yX6_helps : MethodName := ⟨RX6, "helps", "(II)I"⟩
abbrev cX6_take : ByteArray := prog_1_method_15_code
def yX6_take : MethodName := ⟨RX6, "take", "(II)I"⟩
abbrev cX6_exchange : ByteArray := prog_1_method_16_code
def yX6_exchange : MethodName := ⟨RX6, "exchange", "(II)I"⟩
abbrev cX6_born : ByteArray := prog_1_method_17_code
def yX6_born : MethodName := ⟨RX6, "born", "(I)I"⟩
abbrev cX6_years : ByteArray := prog_1_method_18_code
def yX6_years : MethodName := ⟨RX6, "years", "(I)I"⟩
abbrev cX6_ahead : ByteArray := prog_1_method_19_code
def yX6_ahead : MethodName := ⟨RX6, "ahead", "(II)I"⟩
abbrev cX6_shut : ByteArray := prog_1_method_20_code
def yX6_shut : MethodName := ⟨RX6, "shut", "(I)I"⟩
abbrev cX6_ends : ByteArray := prog_1_method_21_code
def yX6_ends : MethodName := ⟨RX6, "ends", "(I)I"⟩
abbrev cX6_choose : ByteArray := prog_1_method_22_code
def yX6_choose : MethodName := ⟨RX6, "choose", "(I)I"⟩
abbrev cX6_handsFor : ByteArray := prog_1_method_23_code
def yX6_handsFor : MethodName := ⟨RX6, "handsFor", "(I)I"⟩
abbrev cX6_most : ByteArray := prog_1_method_24_code
def yX6_most : MethodName := ⟨RX6, "most", "(I)I"⟩
abbrev cX6_give : ByteArray := prog_1_method_25_code
def yX6_give : MethodName := ⟨RX6, "give", "(I)I"⟩
abbrev cX6_lives : ByteArray := prog_1_method_26_code
def yX6_lives : MethodName := ⟨RX6, "lives", "(II)I"⟩
abbrev cX6_best : ByteArray := prog_1_method_27_code
def yX6_best : MethodName := ⟨RX6, "best", "(I)I"⟩
abbrev cX6_whom : ByteArray := prog_1_method_28_code
def yX6_whom : MethodName := ⟨RX6, "whom", "(II)I"⟩
abbrev cX6_seed : ByteArray := prog_1_method_29_code
def yX6_seed : MethodName := ⟨RX6, "seed", "(I)I"⟩
abbrev cX6_feed : ByteArray := prog_1_method_30_code
def yX6_feed : MethodName := ⟨RX6, "feed", "(II)I"⟩
abbrev cX6_wipe : ByteArray := prog_1_method_31_code
def yX6_wipe : MethodName := ⟨RX6, "wipe", "()I"⟩
abbrev cX6_text : ByteArray := prog_1_method_32_code
def yX6_text : MethodName := ⟨RX6, "text", "()I"⟩
abbrev cX6_hold : ByteArray := prog_1_method_33_code
def yX6_hold : MethodName := ⟨RX6, "hold", "(II)I"⟩
abbrev cX6_as : ByteArray := prog_1_method_34_code
def yX6_as : MethodName := ⟨RX6, "as", "(II)I"⟩
abbrev cX6_sheet : ByteArray := prog_1_method_35_code
def yX6_sheet : MethodName := ⟨RX6, "sheet", "(III)I"⟩
abbrev cX6_write : ByteArray := prog_1_method_36_code
def yX6_write : MethodName := ⟨RX6, "write", "(III)I"⟩
abbrev cX6_copy : ByteArray := prog_1_method_37_code
def yX6_copy : MethodName := ⟨RX6, "copy", "(IIIII)I"⟩
abbrev cX6_load : ByteArray := prog_1_method_38_code
def yX6_load : MethodName := ⟨RX6, "load", "(I)I"⟩
abbrev cX6_judge : ByteArray := prog_1_method_39_code
def yX6_judge : MethodName := ⟨RX6, "judge", "(II)I"⟩
abbrev cX6_image : ByteArray := prog_1_method_40_code
def yX6_image : MethodName := ⟨RX6, "image", "()I"⟩
abbrev cX6_undo : ByteArray := prog_1_method_41_code
def yX6_undo : MethodName := ⟨RX6, "undo", "()I"⟩
abbrev cX6_tear : ByteArray := prog_1_method_42_code
def yX6_tear : MethodName := ⟨RX6, "tear", "()I"⟩
abbrev cX6_count : ByteArray := prog_1_method_43_code
def yX6_count : MethodName := ⟨RX6, "count", "(I)I"⟩
abbrev cX6_status : ByteArray := prog_1_method_44_code
def yX6_status : MethodName := ⟨RX6, "status", "(I)I"⟩
abbrev cX6_found : ByteArray := prog_1_method_45_code
def yX6_found : MethodName := ⟨RX6, "found", "(I)I"⟩
abbrev cX6_isIn : ByteArray := prog_1_method_46_code
def yX6_isIn : MethodName := ⟨RX6, "isIn", "(III)Z"⟩
abbrev cX6_isName : ByteArray := prog_1_method_47_code
def yX6_isName : MethodName := ⟨RX6, "isName", "(I)Z"⟩
abbrev cX6_isSheet : ByteArray := prog_1_method_48_code
def yX6_isSheet : MethodName := ⟨RX6, "isSheet", "(I)Z"⟩
abbrev cX6_isTooLate : ByteArray := prog_1_method_49_code
def yX6_isTooLate : MethodName := ⟨RX6, "isTooLate", "(I)Z"⟩
abbrev cX6_lookAhead : ByteArray := prog_1_method_50_code
def yX6_lookAhead : MethodName := ⟨RX6, "lookAhead", "(I)V"⟩
abbrev cX6_isShutInTime : ByteArray := prog_1_method_51_code
def yX6_isShutInTime : MethodName := ⟨RX6, "isShutInTime", "(III)Z"⟩
abbrev cX6_whyNoGiving : ByteArray := prog_1_method_52_code
def yX6_whyNoGiving : MethodName := ⟨RX6, "whyNoGiving", "(I)I"⟩
def RX7 : String := "NameBookModel"
def TX7 : u_T := fun k => match k with
  | 0 => ("NameBookModel", "m", "[I", true)
  | 1 => ("NameBookModel", "kept", "[I", true)
  | 2 => ("NameBookModel", "was", "[I", true)
  | 3 => ("NameBookModel", "other", "[I", true)
  | 4 => ("NameBookModel", "isKept", "Z", false)
  | 5 => ("NameBookModel", "found", "[I", true)
  | 6 => ("NameBookModel", "got", "[I", true)
  | 7 => ("NameBookModel", "best", "[I", true)
  | 8 => ("NameBookModel", "tape", "[I", true)
  | 9 => ("NameBookModel", "taped", "I", false)
  | 10 => ("NameBookModel", "sort", "I", false)
  | 11 => ("NameBookModel", "from", "I", false)
  | 12 => ("NameBookModel", "to", "I", false)
  | 13 => ("NameBookModel", "value", "I", false)
  | 14 => ("NameBookModel", "bad", "Z", false)
  | 15 => ("NameBookModel", "bits", "[I", true)
  | 16 => ("NameBookModel", "size", "[I", true)
  | _ => ("NameBookModel", "number", "[I", true)
def tyX7 : Nat → FieldType := fun k => match k with
  | 0 => .array .int
  | 1 => .array .int
  | 2 => .array .int
  | 3 => .array .int
  | 4 => .boolean
  | 5 => .array .int
  | 6 => .array .int
  | 7 => .array .int
  | 8 => .array .int
  | 9 => .int
  | 10 => .int
  | 11 => .int
  | 12 => .int
  | 13 => .int
  | 14 => .boolean
  | 15 => .array .int
  | 16 => .array .int
  | _ => .array .int
abbrev wsX70 : List Cond := u_ws RX7 TX7 18
theorem nmX7 : ∀ a, a < 18 → ∀ b, b < 18 → a ≠ b → (TX7 a).2.1 ≠ (TX7 b).2.1 := by decide +kernel
theorem tyX7_ok : ∀ k, k < 18 → parseFieldDescriptor (TX7 k).2.2.1 = some (tyX7 k) := by decide +kernel
abbrev cX7_init : ByteArray := prog_9_method_1_code
def yX7_init : MethodName := ⟨RX7, "<init>", "()V"⟩
abbrev cX7_finds : ByteArray := prog_9_method_2_code
def yX7_finds : MethodName := ⟨RX7, "finds", "(I)I"⟩
abbrev cX7_orNone : ByteArray := prog_9_method_3_code
def yX7_orNone : MethodName := ⟨RX7, "orNone", "(I)I"⟩
abbrev cX7_in : ByteArray := prog_9_method_4_code
def yX7_in : MethodName := ⟨RX7, "in", "(JJJ)Z"⟩
abbrev cX7_held : ByteArray := prog_9_method_5_code
def yX7_held : MethodName := ⟨RX7, "held", "(I)I"⟩
abbrev cX7_row : ByteArray := prog_9_method_6_code
def yX7_row : MethodName := ⟨RX7, "row", "([I[I)V"⟩
abbrev cX7_becomes : ByteArray := prog_9_method_7_code
def yX7_becomes : MethodName := ⟨RX7, "becomes", "(II)I"⟩
abbrev cX7_isName : ByteArray := prog_9_method_8_code
def yX7_isName : MethodName := ⟨RX7, "isName", "(I)Z"⟩
abbrev cX7_isTask : ByteArray := prog_9_method_9_code
def yX7_isTask : MethodName := ⟨RX7, "isTask", "(I)Z"⟩
abbrev cX7_isPerson : ByteArray := prog_9_method_10_code
def yX7_isPerson : MethodName := ⟨RX7, "isPerson", "(I)Z"⟩
abbrev cX7_isKind : ByteArray := prog_9_method_11_code
def yX7_isKind : MethodName := ⟨RX7, "isKind", "(I)Z"⟩
abbrev cX7_areHands : ByteArray := prog_9_method_12_code
def yX7_areHands : MethodName := ⟨RX7, "areHands", "(I)Z"⟩
abbrev cX7_task0 : ByteArray := prog_9_method_13_code
def yX7_task0 : MethodName := ⟨RX7, "task0", "(II)I"⟩
abbrev cX7_person0 : ByteArray := prog_9_method_14_code
def yX7_person0 : MethodName := ⟨RX7, "person0", "(II)I"⟩
abbrev cX7_isEnded : ByteArray := prog_9_method_15_code
def yX7_isEnded : MethodName := ⟨RX7, "isEnded", "(I)Z"⟩
abbrev cX7_bearer : ByteArray := prog_9_method_16_code
def yX7_bearer : MethodName := ⟨RX7, "bearer", "(I)I"⟩
abbrev cX7_worth : ByteArray := prog_9_method_17_code
def yX7_worth : MethodName := ⟨RX7, "worth", "(II)I"⟩
abbrev cX7_comes : ByteArray := prog_9_method_18_code
def yX7_comes : MethodName := ⟨RX7, "comes", "(IIII)V"⟩
abbrev cX7_task : ByteArray := prog_9_method_19_code
def yX7_task : MethodName := ⟨RX7, "task", "(III)I"⟩
abbrev cX7_grows : ByteArray := prog_9_method_20_code
def yX7_grows : MethodName := ⟨RX7, "grows", "(I)I"⟩
abbrev cX7_waitsFor : ByteArray := prog_9_method_21_code
def yX7_waitsFor : MethodName := ⟨RX7, "waitsFor", "(I)I"⟩
abbrev cX7_comesTo : ByteArray := prog_9_method_22_code
def yX7_comesTo : MethodName := ⟨RX7, "comesTo", "(II)Z"⟩
abbrev cX7_taskOf : ByteArray := prog_9_method_23_code
def yX7_taskOf : MethodName := ⟨RX7, "taskOf", "(II)I"⟩
abbrev cX7_turn : ByteArray := prog_9_method_24_code
def yX7_turn : MethodName := ⟨RX7, "turn", "(II)I"⟩
abbrev cX7_needs : ByteArray := prog_9_method_25_code
def yX7_needs : MethodName := ⟨RX7, "needs", "(II)I"⟩
abbrev cX7_strike : ByteArray := prog_9_method_26_code
def yX7_strike : MethodName := ⟨RX7, "strike", "(I)I"⟩
abbrev cX7_isOpen : ByteArray := prog_9_method_27_code
def yX7_isOpen : MethodName := ⟨RX7, "isOpen", "(I)Z"⟩
abbrev cX7_atHand : ByteArray := prog_9_method_28_code
def yX7_atHand : MethodName := ⟨RX7, "atHand", "(I)I"⟩
abbrev cX7_sumOf : ByteArray := prog_9_method_29_code
def yX7_sumOf : MethodName := ⟨RX7, "sumOf", "(IZ)I"⟩
abbrev cX7_nameOf : ByteArray := prog_9_method_30_code
def yX7_nameOf : MethodName := ⟨RX7, "nameOf", "(II)I"⟩
abbrev cX7_rings : ByteArray := prog_9_method_31_code
def yX7_rings : MethodName := ⟨RX7, "rings", "()I"⟩
abbrev cX7_waits : ByteArray := prog_9_method_32_code
def yX7_waits : MethodName := ⟨RX7, "waits", "(I)I"⟩
abbrev cX7_isBorn : ByteArray := prog_9_method_33_code
def yX7_isBorn : MethodName := ⟨RX7, "isBorn", "(III)V"⟩
abbrev cX7_person : ByteArray := prog_9_method_34_code
def yX7_person : MethodName := ⟨RX7, "person", "(I)I"⟩
abbrev cX7_of : ByteArray := prog_9_method_35_code
def yX7_of : MethodName := ⟨RX7, "of", "(II)I"⟩
abbrev cX7_change : ByteArray := prog_9_method_36_code
def yX7_change : MethodName := ⟨RX7, "change", "(III)I"⟩
abbrev cX7_helps : ByteArray := prog_9_method_37_code
def yX7_helps : MethodName := ⟨RX7, "helps", "(II)I"⟩
abbrev cX7_wrongTake : ByteArray := prog_9_method_38_code
def yX7_wrongTake : MethodName := ⟨RX7, "wrongTake", "(II)I"⟩
abbrev cX7_take : ByteArray := prog_9_method_39_code
def yX7_take : MethodName := ⟨RX7, "take", "(II)I"⟩
abbrev cX7_exchange : ByteArray := prog_9_method_40_code
def yX7_exchange : MethodName := ⟨RX7, "exchange", "(II)I"⟩
abbrev cX7_draw : ByteArray := prog_9_method_41_code
def yX7_draw : MethodName := ⟨RX7, "draw", "()I"⟩
abbrev cX7_born : ByteArray := prog_9_method_42_code
def yX7_born : MethodName := ⟨RX7, "born", "(I)I"⟩
abbrev cX7_isBorneThere : ByteArray := prog_9_method_43_code
def yX7_isBorneThere : MethodName := ⟨RX7, "isBorneThere", "(I)Z"⟩
abbrev cX7_work : ByteArray := prog_9_method_44_code
def yX7_work : MethodName := ⟨RX7, "work", "(II)I"⟩
abbrev cX7_does : ByteArray := prog_9_method_45_code
def yX7_does : MethodName := ⟨RX7, "does", "(II)V"⟩
abbrev cX7_isFree : ByteArray := prog_9_method_46_code
def yX7_isFree : MethodName := ⟨RX7, "isFree", "(I)Z"⟩
abbrev cX7_helpsNow : ByteArray := prog_9_method_47_code
def yX7_helpsNow : MethodName := ⟨RX7, "helpsNow", "(I)V"⟩
abbrev cX7_leaves : ByteArray := prog_9_method_48_code
def yX7_leaves : MethodName := ⟨RX7, "leaves", "(I)V"⟩
abbrev cX7_year : ByteArray := prog_9_method_49_code
def yX7_year : MethodName := ⟨RX7, "year", "()V"⟩
abbrev cX7_unended : ByteArray := prog_9_method_50_code
def yX7_unended : MethodName := ⟨RX7, "unended", "()I"⟩
abbrev cX7_ended : ByteArray := prog_9_method_51_code
def yX7_ended : MethodName := ⟨RX7, "ended", "()I"⟩
abbrev cX7_yearsGo : ByteArray := prog_9_method_52_code
def yX7_yearsGo : MethodName := ⟨RX7, "yearsGo", "(I)V"⟩
abbrev cX7_isFarOn : ByteArray := prog_9_method_53_code
def yX7_isFarOn : MethodName := ⟨RX7, "isFarOn", "(I)Z"⟩
abbrev cX7_years : ByteArray := prog_9_method_54_code
def yX7_years : MethodName := ⟨RX7, "years", "(I)I"⟩
abbrev cX7_hours : ByteArray := prog_9_method_55_code
def yX7_hours : MethodName := ⟨RX7, "hours", "()I"⟩
abbrev cX7_endedWorth : ByteArray := prog_9_method_56_code
def yX7_endedWorth : MethodName := ⟨RX7, "endedWorth", "()I"⟩
abbrev cX7_openNames : ByteArray := prog_9_method_57_code
def yX7_openNames : MethodName := ⟨RX7, "openNames", "()I"⟩
abbrev cX7_allLives : ByteArray := prog_9_method_58_code
def yX7_allLives : MethodName := ⟨RX7, "allLives", "()I"⟩
abbrev cX7_ahead : ByteArray := prog_9_method_59_code
def yX7_ahead : MethodName := ⟨RX7, "ahead", "(II)I"⟩
abbrev cX7_overIn : ByteArray := prog_9_method_60_code
def yX7_overIn : MethodName := ⟨RX7, "overIn", "(III)I"⟩
abbrev cX7_shut : ByteArray := prog_9_method_61_code
def yX7_shut : MethodName := ⟨RX7, "shut", "(I)I"⟩
abbrev cX7_ends : ByteArray := prog_9_method_62_code
def yX7_ends : MethodName := ⟨RX7, "ends", "(I)I"⟩
abbrev cX7_isShutInTime : ByteArray := prog_9_method_63_code
def yX7_isShutInTime : MethodName := ⟨RX7, "isShutInTime", "(II)Z"⟩
abbrev cX7_choose : ByteArray := prog_9_method_64_code
def yX7_choose : MethodName := ⟨RX7, "choose", "(I)I"⟩
abbrev cX7_handsFor : ByteArray := prog_9_method_65_code
def yX7_handsFor : MethodName := ⟨RX7, "handsFor", "(I)I"⟩
abbrev cX7_mayGet : ByteArray := prog_9_method_66_code
def yX7_mayGet : MethodName := ⟨RX7, "mayGet", "(I)Z"⟩
abbrev cX7_waiting : ByteArray := prog_9_method_67_code
def yX7_waiting : MethodName := ⟨RX7, "waiting", "()I"⟩
abbrev cX7_bestWay : ByteArray := prog_9_method_68_code
def yX7_bestWay : MethodName := ⟨RX7, "bestWay", "(I)I"⟩
abbrev cX7_wrongWay : ByteArray := prog_9_method_69_code
def yX7_wrongWay : MethodName := ⟨RX7, "wrongWay", "(I)I"⟩
abbrev cX7_most : ByteArray := prog_9_method_70_code
def yX7_most : MethodName := ⟨RX7, "most", "(I)I"⟩
abbrev cX7_give : ByteArray := prog_9_method_71_code
def yX7_give : MethodName := ⟨RX7, "give", "(I)I"⟩
abbrev cX7_lives : ByteArray := prog_9_method_72_code
def yX7_lives : MethodName := ⟨RX7, "lives", "(II)I"⟩
abbrev cX7_hoursBehind : ByteArray := prog_9_method_73_code
def yX7_hoursBehind : MethodName := ⟨RX7, "hoursBehind", "(I)I"⟩
abbrev cX7_best : ByteArray := prog_9_method_74_code
def yX7_best : MethodName := ⟨RX7, "best", "(I)I"⟩
abbrev cX7_whom : ByteArray := prog_9_method_75_code
def yX7_whom : MethodName := ⟨RX7, "whom", "(II)I"⟩
abbrev cX7_seed : ByteArray := prog_9_method_76_code
def yX7_seed : MethodName := ⟨RX7, "seed", "(I)I"⟩
abbrev cX7_feed : ByteArray := prog_9_method_77_code
def yX7_feed : MethodName := ⟨RX7, "feed", "(II)I"⟩
abbrev cX7_wipe : ByteArray := prog_9_method_78_code
def yX7_wipe : MethodName := ⟨RX7, "wipe", "()I"⟩
abbrev cX7_isByte : ByteArray := prog_9_method_79_code
def yX7_isByte : MethodName := ⟨RX7, "isByte", "(III)Z"⟩
abbrev cX7_token : ByteArray := prog_9_method_80_code
def yX7_token : MethodName := ⟨RX7, "token", "()V"⟩
abbrev cX7_isWord : ByteArray := prog_9_method_81_code
def yX7_isWord : MethodName := ⟨RX7, "isWord", "(Ljava/lang/String;)Z"⟩
abbrev cX7_takes : ByteArray := prog_9_method_82_code
def yX7_takes : MethodName := ⟨RX7, "takes", "(Ljava/lang/String;)Z"⟩
abbrev cX7_isSign : ByteArray := prog_9_method_83_code
def yX7_isSign : MethodName := ⟨RX7, "isSign", "(I)Z"⟩
abbrev cX7_number : ByteArray := prog_9_method_84_code
def yX7_number : MethodName := ⟨RX7, "number", "(IIZ)I"⟩
abbrev cX7_word : ByteArray := prog_9_method_85_code
def yX7_word : MethodName := ⟨RX7, "word", "(Ljava/lang/String;)V"⟩
abbrev cX7_kindHere : ByteArray := prog_9_method_86_code
def yX7_kindHere : MethodName := ⟨RX7, "kindHere", "()I"⟩
abbrev cX7_nameItem : ByteArray := prog_9_method_87_code
def yX7_nameItem : MethodName := ⟨RX7, "nameItem", "()V"⟩
abbrev cX7_taskItem : ByteArray := prog_9_method_88_code
def yX7_taskItem : MethodName := ⟨RX7, "taskItem", "(I)V"⟩
abbrev cX7_personItem : ByteArray := prog_9_method_89_code
def yX7_personItem : MethodName := ⟨RX7, "personItem", "()V"⟩
abbrev cX7_item : ByteArray := prog_9_method_90_code
def yX7_item : MethodName := ⟨RX7, "item", "()V"⟩
abbrev cX7_text : ByteArray := prog_9_method_91_code
def yX7_text : MethodName := ⟨RX7, "text", "()I"⟩
abbrev cX7_hold : ByteArray := prog_9_method_92_code
def yX7_hold : MethodName := ⟨RX7, "hold", "(II)I"⟩
abbrev cX7_above : ByteArray := prog_9_method_93_code
def yX7_above : MethodName := ⟨RX7, "above", "(I)I"⟩
abbrev cX7_as : ByteArray := prog_9_method_94_code
def yX7_as : MethodName := ⟨RX7, "as", "(II)I"⟩
abbrev cX7_isSheet : ByteArray := prog_9_method_95_code
def yX7_isSheet : MethodName := ⟨RX7, "isSheet", "(I)Z"⟩
abbrev cX7_sheet : ByteArray := prog_9_method_96_code
def yX7_sheet : MethodName := ⟨RX7, "sheet", "(III)I"⟩
abbrev cX7_write : ByteArray := prog_9_method_97_code
def yX7_write : MethodName := ⟨RX7, "write", "(III)I"⟩
abbrev cX7_copy : ByteArray := prog_9_method_98_code
def yX7_copy : MethodName := ⟨RX7, "copy", "(IIIII)I"⟩
abbrev cX7_load : ByteArray := prog_9_method_99_code
def yX7_load : MethodName := ⟨RX7, "load", "(I)I"⟩
abbrev cX7_judge : ByteArray := prog_9_method_100_code
def yX7_judge : MethodName := ⟨RX7, "judge", "(II)I"⟩
abbrev cX7_image : ByteArray := prog_9_method_101_code
def yX7_image : MethodName := ⟨RX7, "image", "()I"⟩
abbrev cX7_undo : ByteArray := prog_9_method_102_code
def yX7_undo : MethodName := ⟨RX7, "undo", "()I"⟩
abbrev cX7_tear : ByteArray := prog_9_method_103_code
def yX7_tear : MethodName := ⟨RX7, "tear", "()I"⟩
abbrev cX7_count : ByteArray := prog_9_method_104_code
def yX7_count : MethodName := ⟨RX7, "count", "(I)I"⟩
abbrev cX7_status : ByteArray := prog_9_method_105_code
def yX7_status : MethodName := ⟨RX7, "status", "(I)I"⟩
def RJx145de : String := "java/io/Serializable"
def TJx145de : u_T := fun k => match k with
  | _ => ("", "", "", false)
def tyJx145de : Nat → FieldType := fun k => match k with
  | _ => .int
abbrev wsJx145de0 : List Cond := u_ws RJx145de TJx145de 0
theorem nmJx145de : ∀ a, a < 0 → ∀ b, b < 0 → a ≠ b → (TJx145de a).2.1 ≠ (TJx145de b).2.1 := by decide +kernel
theorem tyJx145de_ok : ∀ k, k < 0 → parseFieldDescriptor (TJx145de k).2.2.1 = some (tyJx145de k) := by decide +kernel
def RJx9f9b0 : String := "java/lang/CharSequence"
def TJx9f9b0 : u_T := fun k => match k with
  | _ => ("", "", "", false)
def tyJx9f9b0 : Nat → FieldType := fun k => match k with
  | _ => .int
abbrev wsJx9f9b00 : List Cond := u_ws RJx9f9b0 TJx9f9b0 0
theorem nmJx9f9b0 : ∀ a, a < 0 → ∀ b, b < 0 → a ≠ b → (TJx9f9b0 a).2.1 ≠ (TJx9f9b0 b).2.1 := by decide +kernel
theorem tyJx9f9b0_ok : ∀ k, k < 0 → parseFieldDescriptor (TJx9f9b0 k).2.2.1 = some (tyJx9f9b0 k) := by decide +kernel
def RJxb160c : String := "java/lang/Comparable"
def TJxb160c : u_T := fun k => match k with
  | _ => ("", "", "", false)
def tyJxb160c : Nat → FieldType := fun k => match k with
  | _ => .int
abbrev wsJxb160c0 : List Cond := u_ws RJxb160c TJxb160c 0
theorem nmJxb160c : ∀ a, a < 0 → ∀ b, b < 0 → a ≠ b → (TJxb160c a).2.1 ≠ (TJxb160c b).2.1 := by decide +kernel
theorem tyJxb160c_ok : ∀ k, k < 0 → parseFieldDescriptor (TJxb160c k).2.2.1 = some (tyJxb160c k) := by decide +kernel
def RJ9 : String := "java/lang/Math"
def TJ9 : u_T := fun k => match k with
  | _ => ("", "", "", false)
def tyJ9 : Nat → FieldType := fun k => match k with
  | _ => .int
abbrev wsJ90 : List Cond := u_ws RJ9 TJ9 0
theorem nmJ9 : ∀ a, a < 0 → ∀ b, b < 0 → a ≠ b → (TJ9 a).2.1 ≠ (TJ9 b).2.1 := by decide +kernel
theorem tyJ9_ok : ∀ k, k < 0 → parseFieldDescriptor (TJ9 k).2.2.1 = some (tyJ9 k) := by decide +kernel
abbrev cJ9_max_7cf53 : ByteArray := prog_10_method_65_code
def yJ9_max_7cf53 : MethodName := ⟨RJ9, "max", "(II)I"⟩
abbrev cJ9_min_7cf53 : ByteArray := prog_10_method_69_code
def yJ9_min_7cf53 : MethodName := ⟨RJ9, "min", "(II)I"⟩
def RJ0 : String := "java/lang/String"
def TJ0 : u_T := fun k => match k with
  | _ => ("", "", "", false)
def tyJ0 : Nat → FieldType := fun k => match k with
  | _ => .int
abbrev wsJ00 : List Cond := u_ws RJ0 TJ0 0
theorem nmJ0 : ∀ a, a < 0 → ∀ b, b < 0 → a ≠ b → (TJ0 a).2.1 ≠ (TJ0 b).2.1 := by decide +kernel
theorem tyJ0_ok : ∀ k, k < 0 → parseFieldDescriptor (TJ0 k).2.2.1 = some (tyJ0 k) := by decide +kernel
abbrev cJ0_length_8abf5 : ByteArray := prog_11_method_54_code
def yJ0_length_8abf5 : MethodName := ⟨RJ0, "length", "()I"⟩
abbrev cJ0_charAt_5068e : ByteArray := prog_11_method_56_code
def yJ0_charAt_5068e : MethodName := ⟨RJ0, "charAt", "(I)C"⟩
abbrev cJ0_coder_7d493 : ByteArray := prog_11_method_152_code
def yJ0_coder_7d493 : MethodName := ⟨RJ0, "coder", "()B"⟩
abbrev cJ0_isLatin1_aae02 : ByteArray := prog_11_method_154_code
def yJ0_isLatin1_aae02 : MethodName := ⟨RJ0, "isLatin1", "()Z"⟩
abbrev cJ0_checkIndex_df160 : ByteArray := prog_11_method_155_code
def yJ0_checkIndex_df160 : MethodName := ⟨RJ0, "checkIndex", "(II)V"⟩
def RJ1 : String := "java/lang/StringLatin1"
def TJ1 : u_T := fun k => match k with
  | _ => ("", "", "", false)
def tyJ1 : Nat → FieldType := fun k => match k with
  | _ => .int
abbrev wsJ10 : List Cond := u_ws RJ1 TJ1 0
theorem nmJ1 : ∀ a, a < 0 → ∀ b, b < 0 → a ≠ b → (TJ1 a).2.1 ≠ (TJ1 b).2.1 := by decide +kernel
theorem tyJ1_ok : ∀ k, k < 0 → parseFieldDescriptor (TJ1 k).2.2.1 = some (tyJ1 k) := by decide +kernel
abbrev cJ1_charAt_3b067 : ByteArray := prog_12_method_2_code
def yJ1_charAt_3b067 : MethodName := ⟨RJ1, "charAt", "([BI)C"⟩
def RJ2 : String := "java/lang/StringUTF16"
def TJ2 : u_T := fun k => match k with
  | _ => ("", "", "", false)
def tyJ2 : Nat → FieldType := fun k => match k with
  | _ => .int
abbrev wsJ20 : List Cond := u_ws RJ2 TJ2 0
theorem nmJ2 : ∀ a, a < 0 → ∀ b, b < 0 → a ≠ b → (TJ2 a).2.1 ≠ (TJ2 b).2.1 := by decide +kernel
theorem tyJ2_ok : ∀ k, k < 0 → parseFieldDescriptor (TJ2 k).2.2.1 = some (tyJ2 k) := by decide +kernel
abbrev cJ2_getChar_3b067 : ByteArray := prog_13_method_5_code
def yJ2_getChar_3b067 : MethodName := ⟨RJ2, "getChar", "([BI)C"⟩
abbrev cJ2_length_9d52b : ByteArray := prog_13_method_6_code
def yJ2_length_9d52b : MethodName := ⟨RJ2, "length", "([B)I"⟩
abbrev cJ2_charAt_3b067 : ByteArray := prog_13_method_83_code
def yJ2_charAt_3b067 : MethodName := ⟨RJ2, "charAt", "([BI)C"⟩
abbrev cJ2_checkIndex_2214a : ByteArray := prog_13_method_91_code
def yJ2_checkIndex_2214a : MethodName := ⟨RJ2, "checkIndex", "(I[B)V"⟩
def RJ10 : String := "java/lang/System"
def TJ10 : u_T := fun k => match k with
  | _ => ("", "", "", false)
def tyJ10 : Nat → FieldType := fun k => match k with
  | _ => .int
abbrev wsJ100 : List Cond := u_ws RJ10 TJ10 0
theorem nmJ10 : ∀ a, a < 0 → ∀ b, b < 0 → a ≠ b → (TJ10 a).2.1 ≠ (TJ10 b).2.1 := by decide +kernel
theorem tyJ10_ok : ∀ k, k < 0 → parseFieldDescriptor (TJ10 k).2.2.1 = some (tyJ10 k) := by decide +kernel
def RJxfd54e : String := "java/lang/constant/Constable"
def TJxfd54e : u_T := fun k => match k with
  | _ => ("", "", "", false)
def tyJxfd54e : Nat → FieldType := fun k => match k with
  | _ => .int
abbrev wsJxfd54e0 : List Cond := u_ws RJxfd54e TJxfd54e 0
theorem nmJxfd54e : ∀ a, a < 0 → ∀ b, b < 0 → a ≠ b → (TJxfd54e a).2.1 ≠ (TJxfd54e b).2.1 := by decide +kernel
theorem tyJxfd54e_ok : ∀ k, k < 0 → parseFieldDescriptor (TJxfd54e k).2.2.1 = some (tyJxfd54e k) := by decide +kernel
def RJx3cf43 : String := "java/lang/constant/ConstantDesc"
def TJx3cf43 : u_T := fun k => match k with
  | _ => ("", "", "", false)
def tyJx3cf43 : Nat → FieldType := fun k => match k with
  | _ => .int
abbrev wsJx3cf430 : List Cond := u_ws RJx3cf43 TJx3cf43 0
theorem nmJx3cf43 : ∀ a, a < 0 → ∀ b, b < 0 → a ≠ b → (TJx3cf43 a).2.1 ≠ (TJx3cf43 b).2.1 := by decide +kernel
theorem tyJx3cf43_ok : ∀ k, k < 0 → parseFieldDescriptor (TJx3cf43 k).2.2.1 = some (tyJx3cf43 k) := by decide +kernel
def RJ7 : String := "java/util/Arrays"
def TJ7 : u_T := fun k => match k with
  | _ => ("", "", "", false)
def tyJ7 : Nat → FieldType := fun k => match k with
  | _ => .int
abbrev wsJ70 : List Cond := u_ws RJ7 TJ7 0
theorem nmJ7 : ∀ a, a < 0 → ∀ b, b < 0 → a ≠ b → (TJ7 a).2.1 ≠ (TJ7 b).2.1 := by decide +kernel
theorem tyJ7_ok : ∀ k, k < 0 → parseFieldDescriptor (TJ7 k).2.2.1 = some (tyJ7 k) := by decide +kernel
abbrev cJ7_fill_53178 : ByteArray := prog_15_method_103_code
def yJ7_fill_53178 : MethodName := ⟨RJ7, "fill", "([II)V"⟩
def RJ3 : String := "jdk/internal/util/Preconditions"
def TJ3 : u_T := fun k => match k with
  | _ => ("", "", "", false)
def tyJ3 : Nat → FieldType := fun k => match k with
  | _ => .int
abbrev wsJ30 : List Cond := u_ws RJ3 TJ3 0
theorem nmJ3 : ∀ a, a < 0 → ∀ b, b < 0 → a ≠ b → (TJ3 a).2.1 ≠ (TJ3 b).2.1 := by decide +kernel
theorem tyJ3_ok : ∀ k, k < 0 → parseFieldDescriptor (TJ3 k).2.2.1 = some (tyJ3 k) := by decide +kernel
abbrev cJ3_checkIndex_8e157 : ByteArray := prog_16_method_11_code
def yJ3_checkIndex_8e157 : MethodName := ⟨RJ3, "checkIndex", "(IILjava/util/function/BiFunction;)I"⟩
def RL : String := "NameBookLaw"
abbrev cL_law : ByteArray := code
def yL_law : MethodName := ⟨RL, "law", "([I)Z"⟩
def wsL_law_r1 : List Cond := [Cond.classLink RL 7 RX6, Cond.instantiable RX6 9, Cond.initialized RX6, Cond.classLink RL 10 RX7, Cond.instantiable RX7 18, Cond.initialized RX7, Cond.methodLink RL 9 yX6_init, Cond.instanceMethod yX6_init, Cond.code yX6_init cX6_init 2 none, Cond.methodLink RX6 3 objectInit, Cond.instanceMethod objectInit, Cond.code objectInit ⟨#[0xb1]⟩ 1 none, Cond.classLink RX6 9 RX0, Cond.instantiable RX0 15, Cond.initialized RX0, Cond.fieldLink RX6 12 "NameBook" "book" "LNameBook$Book;", Cond.fieldLink RX6 16 "NameBook" "kept" "LNameBook$Book;", Cond.fieldLink RX6 19 "NameBook" "trial" "LNameBook$Book;", Cond.classLink RX6 22 RX5, Cond.instantiable RX5 1, Cond.initialized RX5, Cond.fieldLink RX6 25 "NameBook" "walk" "LNameBook$Walk;", Cond.classLink RX6 29 RX1, Cond.instantiable RX1 10]
def wsL_law_r2 : List Cond := [Cond.initialized RX1, Cond.fieldLink RX6 34 "NameBook" "giving" "LNameBook$Giving;", Cond.classLink RX6 38 RX4, Cond.instantiable RX4 6, Cond.initialized RX4, Cond.fieldLink RX6 41 "NameBook" "tape" "LNameBook$Tape;", Cond.classLink RX6 45 RX3, Cond.fieldLink RX6 47 "NameBook" "sheets" "[LNameBook$Sheet;", Cond.arrayClass .int, Cond.fieldLink RX6 51 "NameBook" "told" "[I", Cond.instantiable RX3 3, Cond.initialized RX3, Cond.methodLink RX6 11 yX0_init, Cond.instanceMethod yX0_init, Cond.code yX0_init cX0_init 1 none, Cond.methodLink RX0 3 objectInit, Cond.fieldLink RX0 9 "NameBook$Book" "z" "I", Cond.fieldLink RX0 15 "NameBook$Book" "worths" "[I", Cond.fieldLink RX0 19 "NameBook$Book" "gone" "[I", Cond.fieldLink RX0 22 "NameBook$Book" "kinds" "[I", Cond.fieldLink RX0 25 "NameBook$Book" "owners" "[I", Cond.fieldLink RX0 28 "NameBook$Book" "hours" "[I", Cond.fieldLink RX0 31 "NameBook$Book" "needed" "[I", Cond.fieldLink RX0 34 "NameBook$Book" "borne" "[I"]
def wsL_law_r3 : List Cond := [Cond.fieldLink RX0 37 "NameBook$Book" "ages" "[I", Cond.fieldLink RX0 40 "NameBook$Book" "hands" "[I", Cond.fieldLink RX0 43 "NameBook$Book" "helped" "[I", Cond.fieldLink RX0 46 "NameBook$Book" "spots" "[I", Cond.methodLink RX0 49 yJ7_fill_53178, Cond.static yJ7_fill_53178, Cond.initialized RJ7, Cond.code yJ7_fill_53178 cJ7_fill_53178 4 none, Cond.instanceMethod yX5_init, Cond.code yX5_init cX5_init 1 none, Cond.methodLink RX5 3 objectInit, Cond.fieldLink RX5 9 "NameBook$Walk" "hand" "[I", Cond.methodLink RX6 31 yX1_init, Cond.instanceMethod yX1_init, Cond.code yX1_init cX1_init 3 none, Cond.methodLink RX1 3 objectInit, Cond.fieldLink RX1 11 "NameBook$Giving" "takers" "[I", Cond.fieldLink RX1 15 "NameBook$Giving" "got" "[I", Cond.fieldLink RX1 18 "NameBook$Giving" "bestGot" "[I", Cond.fieldLink RX1 21 "NameBook$Giving" "gains" "[I", Cond.fieldLink RX1 24 "NameBook$Giving" "hopes" "[I", Cond.fieldLink RX1 27 "NameBook$Giving" "trial" "LNameBook$Book;", Cond.fieldLink RX1 31 "NameBook$Giving" "walk" "LNameBook$Walk;", Cond.instanceMethod yX4_init]
def wsL_law_r4 : List Cond := [Cond.code yX4_init cX4_init 1 none, Cond.methodLink RX4 3 objectInit, Cond.fieldLink RX4 11 "NameBook$Tape" "bytes" "[I", Cond.instanceMethod yX3_init, Cond.code yX3_init cX3_init 1 none, Cond.methodLink RX3 1 objectInit, Cond.fieldLink RX3 9 "NameBook$Sheet" "numbers" "[I", Cond.methodLink RL 12 yX7_init, Cond.instanceMethod yX7_init, Cond.code yX7_init cX7_init 2 none, Cond.methodLink RX7 3 objectInit, Cond.fieldLink RX7 9 "NameBookModel" "m" "[I", Cond.fieldLink RX7 13 "NameBookModel" "kept" "[I", Cond.fieldLink RX7 16 "NameBookModel" "was" "[I", Cond.fieldLink RX7 19 "NameBookModel" "other" "[I", Cond.fieldLink RX7 22 "NameBookModel" "found" "[I", Cond.fieldLink RX7 25 "NameBookModel" "got" "[I", Cond.fieldLink RX7 28 "NameBookModel" "best" "[I", Cond.fieldLink RX7 31 "NameBookModel" "tape" "[I", Cond.fieldLink RX7 34 "NameBookModel" "bits" "[I", Cond.fieldLink RX7 37 "NameBookModel" "size" "[I", Cond.fieldLink RX7 40 "NameBookModel" "number" "[I", Cond.methodLink RL 13 yX6_worth, Cond.instanceMethod yX6_worth]
def wsL_law_r5 : List Cond := [Cond.selects RX6 yX6_worth yX6_worth, Cond.code yX6_worth cX6_worth 4 (some .int), Cond.constant RX6 64 (-1000001), Cond.fieldLink RX6 69 "NameBook$Book" "worths" "[I", Cond.methodLink RX6 56 yX6_isName, Cond.static yX6_isName, Cond.code yX6_isName cX6_isName 1 (some .boolean), Cond.methodLink RX6 60 yX6_isIn, Cond.static yX6_isIn, Cond.code yX6_isIn cX6_isIn 3 (some .boolean), Cond.methodLink RX6 65 yX6_found, Cond.instanceMethod yX6_found, Cond.selects RX6 yX6_found yX6_found, Cond.code yX6_found cX6_found 3 (some .int), Cond.methodLink RL 17 yX7_worth, Cond.instanceMethod yX7_worth, Cond.selects RX7 yX7_worth yX7_worth, Cond.code yX7_worth cX7_worth 3 (some .int), Cond.constantLong RX7 70 (99), Cond.constant RX7 43 (-1000001), Cond.methodLink RX7 66 yX7_isName, Cond.static yX7_isName, Cond.code yX7_isName cX7_isName 1 (some .boolean), Cond.constantLong RX7 49 (7)]
def wsL_law_r6 : List Cond := [Cond.methodLink RX7 51 yX7_in, Cond.static yX7_in, Cond.code yX7_in cX7_in 6 (some .boolean), Cond.methodLink RX7 72 yX7_becomes, Cond.instanceMethod yX7_becomes, Cond.selects RX7 yX7_becomes yX7_becomes, Cond.code yX7_becomes cX7_becomes 4 (some .int), Cond.methodLink RX7 45 yX7_finds, Cond.instanceMethod yX7_finds, Cond.selects RX7 yX7_finds yX7_finds, Cond.code yX7_finds cX7_finds 2 (some .int), Cond.methodLink RL 18 yX6_task, Cond.instanceMethod yX6_task, Cond.selects RX6 yX6_task yX6_task, Cond.code yX6_task cX6_task 4 (some .int), Cond.fieldLink RX6 77 "NameBook$Book" "taskCount" "I", Cond.constant RX6 81 (-1000002), Cond.methodLink RX6 72 yX2_isKind, Cond.static yX2_isKind, Cond.initialized RX2, Cond.code yX2_isKind cX2_isKind 1 (some .boolean), Cond.fieldLink RX2 7 "NameBook$Kinds" "ABOVE" "[I", Cond.methodLink RX6 82 yX0_addTask, Cond.instanceMethod yX0_addTask]
def wsL_law_r7 : List Cond := [Cond.selects RX0 yX0_addTask yX0_addTask, Cond.code yX0_addTask cX0_addTask 5 (some .int), Cond.fieldLink RX0 58 "NameBook$Book" "taskCount" "I", Cond.methodLink RL 22 yX7_task, Cond.instanceMethod yX7_task, Cond.selects RX7 yX7_task yX7_task, Cond.code yX7_task cX7_task 4 (some .int), Cond.constantLong RX7 78 (999), Cond.constant RX7 80 (-1000002), Cond.methodLink RX7 75 yX7_isKind, Cond.static yX7_isKind, Cond.code yX7_isKind cX7_isKind 1 (some .boolean), Cond.constantLong RX7 55 (6), Cond.methodLink RX7 81 yX7_comes, Cond.instanceMethod yX7_comes, Cond.selects RX7 yX7_comes yX7_comes, Cond.code yX7_comes cX7_comes 6 none, Cond.methodLink RL 23 yX6_taskOf, Cond.instanceMethod yX6_taskOf, Cond.selects RX6 yX6_taskOf yX6_taskOf, Cond.code yX6_taskOf cX6_taskOf 3 (some .int), Cond.fieldLink RX6 89 "NameBook$Book" "kinds" "[I", Cond.fieldLink RX6 92 "NameBook$Book" "owners" "[I", Cond.fieldLink RX6 95 "NameBook$Book" "hours" "[I"]
def wsL_law_r8 : List Cond := [Cond.fieldLink RX6 98 "NameBook$Book" "needed" "[I", Cond.methodLink RX6 86 yX0_hasTask, Cond.instanceMethod yX0_hasTask, Cond.selects RX0 yX0_hasTask yX0_hasTask, Cond.code yX0_hasTask cX0_hasTask 2 (some .boolean), Cond.methodLink RX6 101 yX0_growthOf, Cond.instanceMethod yX0_growthOf, Cond.selects RX0 yX0_growthOf yX0_growthOf, Cond.code yX0_growthOf cX0_growthOf 2 (some .int), Cond.fieldLink RX0 55 "NameBook$Book" "year" "I", Cond.methodLink RX0 71 yX0_isEnded, Cond.instanceMethod yX0_isEnded, Cond.selects RX0 yX0_isEnded yX0_isEnded, Cond.code yX0_isEnded cX0_isEnded 2 (some .boolean), Cond.methodLink RX0 75 yX2_growthOf, Cond.static yX2_growthOf, Cond.code yX2_growthOf cX2_growthOf 3 (some .int), Cond.methodLink RX6 104 yX0_isWaiting, Cond.instanceMethod yX0_isWaiting, Cond.selects RX0 yX0_isWaiting yX0_isWaiting, Cond.code yX0_isWaiting cX0_isWaiting 5 (some .boolean), Cond.methodLink RX0 88 yX0_hasTask, Cond.methodLink RL 26 yX7_taskOf, Cond.instanceMethod yX7_taskOf]
def wsL_law_r9 : List Cond := [Cond.selects RX7 yX7_taskOf yX7_taskOf, Cond.code yX7_taskOf cX7_taskOf 3 (some .int), Cond.constantLong RX7 94 (5), Cond.methodLink RX7 91 yX7_isTask, Cond.instanceMethod yX7_isTask, Cond.selects RX7 yX7_isTask yX7_isTask, Cond.code yX7_isTask cX7_isTask 2 (some .boolean), Cond.methodLink RX7 59 yX7_task0, Cond.instanceMethod yX7_task0, Cond.selects RX7 yX7_task0 yX7_task0, Cond.code yX7_task0 cX7_task0 3 (some .int), Cond.methodLink RX7 96 yX7_grows, Cond.instanceMethod yX7_grows, Cond.selects RX7 yX7_grows yX7_grows, Cond.code yX7_grows cX7_grows 4 (some .int), Cond.methodLink RX7 85 yX7_isEnded, Cond.instanceMethod yX7_isEnded, Cond.selects RX7 yX7_isEnded yX7_isEnded, Cond.code yX7_isEnded cX7_isEnded 2 (some .boolean), Cond.methodLink RX7 99 yX7_comesTo, Cond.instanceMethod yX7_comesTo, Cond.selects RX7 yX7_comesTo yX7_comesTo, Cond.code yX7_comesTo cX7_comesTo 5 (some .boolean), Cond.methodLink RX7 88 yX7_waitsFor]
def wsL_law_r10 : List Cond := [Cond.instanceMethod yX7_waitsFor, Cond.selects RX7 yX7_waitsFor yX7_waitsFor, Cond.code yX7_waitsFor cX7_waitsFor 3 (some .int), Cond.methodLink RL 27 yX6_turn, Cond.instanceMethod yX6_turn, Cond.selects RX6 yX6_turn yX6_turn, Cond.code yX6_turn cX6_turn 4 (some .int), Cond.methodLink RL 30 yX7_turn, Cond.instanceMethod yX7_turn, Cond.selects RX7 yX7_turn yX7_turn, Cond.code yX7_turn cX7_turn 3 (some .int), Cond.methodLink RL 31 yX6_needs, Cond.instanceMethod yX6_needs, Cond.selects RX6 yX6_needs yX6_needs, Cond.code yX6_needs cX6_needs 4 (some .int), Cond.methodLink RL 34 yX7_needs, Cond.instanceMethod yX7_needs, Cond.selects RX7 yX7_needs yX7_needs, Cond.code yX7_needs cX7_needs 4 (some .int), Cond.methodLink RL 35 yX6_strike, Cond.instanceMethod yX6_strike, Cond.selects RX6 yX6_strike yX6_strike, Cond.code yX6_strike cX6_strike 3 (some .int), Cond.methodLink RL 39 yX7_strike]
def wsL_law_r11 : List Cond := [Cond.instanceMethod yX7_strike, Cond.selects RX7 yX7_strike yX7_strike, Cond.code yX7_strike cX7_strike 2 (some .int), Cond.methodLink RL 40 yX6_nameOf, Cond.instanceMethod yX6_nameOf, Cond.selects RX6 yX6_nameOf yX6_nameOf, Cond.code yX6_nameOf cX6_nameOf 3 (some .int), Cond.fieldLink RX6 123 "NameBook$Book" "gone" "[I", Cond.methodLink RX6 108 yX0_isOpen, Cond.instanceMethod yX0_isOpen, Cond.selects RX0 yX0_isOpen yX0_isOpen, Cond.code yX0_isOpen cX0_isOpen 2 (some .boolean), Cond.methodLink RX0 91 yX0_openNames, Cond.instanceMethod yX0_openNames, Cond.selects RX0 yX0_openNames yX0_openNames, Cond.code yX0_openNames cX0_openNames 3 (some .int), Cond.methodLink RX6 111 yX0_bearerOf, Cond.instanceMethod yX0_bearerOf, Cond.selects RX0 yX0_bearerOf yX0_bearerOf, Cond.code yX0_bearerOf cX0_bearerOf 3 (some .int), Cond.fieldLink RX0 61 "NameBook$Book" "personCount" "I", Cond.methodLink RX6 114 yX0_tasksOf, Cond.instanceMethod yX0_tasksOf, Cond.selects RX0 yX0_tasksOf yX0_tasksOf]
def wsL_law_r12 : List Cond := [Cond.code yX0_tasksOf cX0_tasksOf 4 (some .int), Cond.methodLink RX6 117 yX0_hoursOf, Cond.instanceMethod yX0_hoursOf, Cond.selects RX0 yX0_hoursOf yX0_hoursOf, Cond.code yX0_hoursOf cX0_hoursOf 4 (some .int), Cond.methodLink RX6 120 yX0_handOf, Cond.instanceMethod yX0_handOf, Cond.selects RX0 yX0_handOf yX0_handOf, Cond.code yX0_handOf cX0_handOf 3 (some .int), Cond.methodLink RX0 111 yX0_isAtHand, Cond.instanceMethod yX0_isAtHand, Cond.selects RX0 yX0_isAtHand yX0_isAtHand, Cond.code yX0_isAtHand cX0_isAtHand 2 (some .boolean), Cond.methodLink RL 43 yX7_nameOf, Cond.instanceMethod yX7_nameOf, Cond.selects RX7 yX7_nameOf yX7_nameOf, Cond.code yX7_nameOf cX7_nameOf 3 (some .int), Cond.methodLink RX7 103 yX7_isOpen, Cond.instanceMethod yX7_isOpen, Cond.selects RX7 yX7_isOpen yX7_isOpen, Cond.code yX7_isOpen cX7_isOpen 3 (some .boolean), Cond.methodLink RX7 106 yX7_bearer, Cond.instanceMethod yX7_bearer, Cond.selects RX7 yX7_bearer yX7_bearer]
def wsL_law_r13 : List Cond := [Cond.code yX7_bearer cX7_bearer 3 (some .int), Cond.methodLink RX7 63 yX7_person0, Cond.instanceMethod yX7_person0, Cond.selects RX7 yX7_person0 yX7_person0, Cond.code yX7_person0 cX7_person0 3 (some .int), Cond.methodLink RX7 109 yX7_sumOf, Cond.instanceMethod yX7_sumOf, Cond.selects RX7 yX7_sumOf yX7_sumOf, Cond.code yX7_sumOf cX7_sumOf 5 (some .int), Cond.methodLink RX7 113 yX7_atHand, Cond.instanceMethod yX7_atHand, Cond.selects RX7 yX7_atHand yX7_atHand, Cond.code yX7_atHand cX7_atHand 3 (some .int), Cond.methodLink RL 44 yX6_rings, Cond.instanceMethod yX6_rings, Cond.selects RX6 yX6_rings yX6_rings, Cond.code yX6_rings cX6_rings 3 (some .int), Cond.methodLink RL 48 yX7_rings, Cond.instanceMethod yX7_rings, Cond.selects RX7 yX7_rings yX7_rings, Cond.code yX7_rings cX7_rings 3 (some .int), Cond.methodLink RL 49 yX6_waits, Cond.instanceMethod yX6_waits, Cond.selects RX6 yX6_waits yX6_waits]
def wsL_law_r14 : List Cond := [Cond.code yX6_waits cX6_waits 4 (some .int), Cond.methodLink RL 52 yX7_waits, Cond.instanceMethod yX7_waits, Cond.selects RX7 yX7_waits yX7_waits, Cond.code yX7_waits cX7_waits 4 (some .int), Cond.methodLink RL 53 yX6_person, Cond.instanceMethod yX6_person, Cond.selects RX6 yX6_person yX6_person, Cond.code yX6_person cX6_person 2 (some .int), Cond.fieldLink RX6 126 "NameBook$Book" "personCount" "I", Cond.methodLink RX6 129 yX0_addPerson, Cond.instanceMethod yX0_addPerson, Cond.selects RX0 yX0_addPerson yX0_addPerson, Cond.code yX0_addPerson cX0_addPerson 4 (some .int), Cond.methodLink RL 56 yX7_person, Cond.instanceMethod yX7_person, Cond.selects RX7 yX7_person yX7_person, Cond.code yX7_person cX7_person 2 (some .int), Cond.methodLink RX7 116 yX7_areHands, Cond.static yX7_areHands, Cond.code yX7_areHands cX7_areHands 1 (some .boolean), Cond.constantLong RX7 57 (9), Cond.methodLink RX7 119 yX7_isBorn, Cond.instanceMethod yX7_isBorn]
def wsL_law_r15 : List Cond := [Cond.selects RX7 yX7_isBorn yX7_isBorn, Cond.code yX7_isBorn cX7_isBorn 5 none, Cond.methodLink RL 57 yX6_of, Cond.instanceMethod yX6_of, Cond.selects RX6 yX6_of yX6_of, Cond.code yX6_of cX6_of 3 (some .int), Cond.fieldLink RX6 136 "NameBook$Book" "borne" "[I", Cond.fieldLink RX6 139 "NameBook$Book" "ages" "[I", Cond.fieldLink RX6 142 "NameBook$Book" "hands" "[I", Cond.fieldLink RX6 145 "NameBook$Book" "helped" "[I", Cond.methodLink RX6 133 yX0_hasPerson, Cond.instanceMethod yX0_hasPerson, Cond.selects RX0 yX0_hasPerson yX0_hasPerson, Cond.code yX0_hasPerson cX0_hasPerson 2 (some .boolean), Cond.methodLink RL 60 yX7_of, Cond.instanceMethod yX7_of, Cond.selects RX7 yX7_of yX7_of, Cond.code yX7_of cX7_of 3 (some .int), Cond.constantLong RX7 126 (3), Cond.methodLink RX7 123 yX7_isPerson, Cond.instanceMethod yX7_isPerson, Cond.selects RX7 yX7_isPerson yX7_isPerson, Cond.code yX7_isPerson cX7_isPerson 2 (some .boolean), Cond.methodLink RL 61 yX6_change]
def wsL_law_r16 : List Cond := [Cond.instanceMethod yX6_change, Cond.selects RX6 yX6_change yX6_change, Cond.code yX6_change cX6_change 5 (some .int), Cond.methodLink RL 64 yX7_change, Cond.instanceMethod yX7_change, Cond.selects RX7 yX7_change yX7_change, Cond.code yX7_change cX7_change 5 (some .int), Cond.constantLong RX7 128 (39), Cond.methodLink RL 65 yX6_helps, Cond.instanceMethod yX6_helps, Cond.selects RX6 yX6_helps yX6_helps, Cond.code yX6_helps cX6_helps 4 (some .int), Cond.methodLink RL 68 yX7_helps, Cond.instanceMethod yX7_helps, Cond.selects RX7 yX7_helps yX7_helps, Cond.code yX7_helps cX7_helps 4 (some .int), Cond.methodLink RL 69 yX6_take, Cond.instanceMethod yX6_take, Cond.selects RX6 yX6_take yX6_take, Cond.code yX6_take cX6_take 4 (some .int), Cond.constant RX6 151 (-1000005), Cond.methodLink RX6 148 yX0_mayTake, Cond.instanceMethod yX0_mayTake, Cond.selects RX0 yX0_mayTake yX0_mayTake]
def wsL_law_r17 : List Cond := [Cond.code yX0_mayTake cX0_mayTake 4 (some .boolean), Cond.methodLink RX0 81 yX0_bearerOf, Cond.methodLink RL 72 yX7_take, Cond.instanceMethod yX7_take, Cond.selects RX7 yX7_take yX7_take, Cond.code yX7_take cX7_take 4 (some .int), Cond.methodLink RX7 131 yX7_wrongTake, Cond.instanceMethod yX7_wrongTake, Cond.selects RX7 yX7_wrongTake yX7_wrongTake, Cond.code yX7_wrongTake cX7_wrongTake 4 (some .int), Cond.constant RX7 130 (-1000005), Cond.methodLink RL 73 yX6_exchange, Cond.instanceMethod yX6_exchange, Cond.selects RX6 yX6_exchange yX6_exchange, Cond.code yX6_exchange cX6_exchange 4 (some .int), Cond.methodLink RL 76 yX7_exchange, Cond.instanceMethod yX7_exchange, Cond.selects RX7 yX7_exchange yX7_exchange, Cond.code yX7_exchange cX7_exchange 3 (some .int), Cond.methodLink RL 77 yX6_born, Cond.instanceMethod yX6_born, Cond.selects RX6 yX6_born yX6_born, Cond.code yX6_born cX6_born 3 (some .int), Cond.methodLink RX6 152 yX0_draw]
def wsL_law_r18 : List Cond := [Cond.instanceMethod yX0_draw, Cond.selects RX0 yX0_draw yX0_draw, Cond.code yX0_draw cX0_draw 1 (some .int), Cond.constant RX0 70 (1103515245), Cond.methodLink RL 80 yX7_born, Cond.instanceMethod yX7_born, Cond.selects RX7 yX7_born yX7_born, Cond.code yX7_born cX7_born 3 (some .int), Cond.constantLong RX7 135 (8), Cond.methodLink RX7 137 yX7_draw, Cond.instanceMethod yX7_draw, Cond.selects RX7 yX7_draw yX7_draw, Cond.code yX7_draw cX7_draw 1 (some .int), Cond.constant RX7 134 (1103515245), Cond.methodLink RL 81 yX6_years, Cond.instanceMethod yX6_years, Cond.selects RX6 yX6_years yX6_years, Cond.code yX6_years cX6_years 3 (some .int), Cond.methodLink RX6 156 yX6_isTooLate, Cond.instanceMethod yX6_isTooLate, Cond.selects RX6 yX6_isTooLate yX6_isTooLate, Cond.code yX6_isTooLate cX6_isTooLate 2 (some .boolean), Cond.fieldLink RX6 282 "NameBook$Book" "year" "I", Cond.methodLink RX6 159 yX0_endedTasks]
def wsL_law_r19 : List Cond := [Cond.instanceMethod yX0_endedTasks, Cond.selects RX0 yX0_endedTasks yX0_endedTasks, Cond.code yX0_endedTasks cX0_endedTasks 3 (some .int), Cond.methodLink RX6 162 yX5_go, Cond.instanceMethod yX5_go, Cond.selects RX5 yX5_go yX5_go, Cond.code yX5_go cX5_go 4 none, Cond.fieldLink RX5 34 "NameBook$Book" "year" "I", Cond.methodLink RX5 15 yX0_findHands, Cond.instanceMethod yX0_findHands, Cond.selects RX0 yX0_findHands yX0_findHands, Cond.code yX0_findHands cX0_findHands 3 none, Cond.methodLink RX5 21 yX5_bearersWork, Cond.instanceMethod yX5_bearersWork, Cond.selects RX5 yX5_bearersWork yX5_bearersWork, Cond.code yX5_bearersWork cX5_bearersWork 3 none, Cond.fieldLink RX5 38 "NameBook$Book" "personCount" "I", Cond.fieldLink RX5 41 "NameBook$Book" "borne" "[I", Cond.fieldLink RX5 44 "NameBook$Book" "ages" "[I", Cond.fieldLink RX5 47 "NameBook$Book" "hands" "[I", Cond.methodLink RX5 50 yX5_workOn, Cond.instanceMethod yX5_workOn, Cond.selects RX5 yX5_workOn yX5_workOn, Cond.code yX5_workOn cX5_workOn 4 none]
def wsL_law_r20 : List Cond := [Cond.fieldLink RX5 57 "NameBook$Book" "hours" "[I", Cond.methodLink RX5 64 Lib.Math.max.name, Cond.static Lib.Math.max.name, Cond.initialized "java/lang/Math", Cond.code Lib.Math.max.name Lib.Math.max.code 2 (some .int), Cond.methodLink RX5 60 yX0_workOf, Cond.instanceMethod yX0_workOf, Cond.selects RX0 yX0_workOf yX0_workOf, Cond.code yX0_workOf cX0_workOf 4 (some .int), Cond.methodLink RX0 85 yX2_workOf, Cond.static yX2_workOf, Cond.code yX2_workOf cX2_workOf 4 (some .int), Cond.methodLink RX5 25 yX5_helpersWork, Cond.instanceMethod yX5_helpersWork, Cond.selects RX5 yX5_helpersWork yX5_helpersWork, Cond.code yX5_helpersWork cX5_helpersWork 4 none, Cond.fieldLink RX5 54 "NameBook$Book" "helped" "[I", Cond.methodLink RX5 28 yX5_tasksGrow, Cond.instanceMethod yX5_tasksGrow, Cond.selects RX5 yX5_tasksGrow yX5_tasksGrow, Cond.code yX5_tasksGrow cX5_tasksGrow 3 none, Cond.fieldLink RX5 69 "NameBook$Book" "taskCount" "I", Cond.fieldLink RX5 72 "NameBook$Book" "kinds" "[I", Cond.methodLink RX5 79 Lib.Math.min.name]
def wsL_law_r21 : List Cond := [Cond.static Lib.Math.min.name, Cond.code Lib.Math.min.name Lib.Math.min.code 2 (some .int), Cond.methodLink RX5 75 yX0_growthOf, Cond.methodLink RX5 31 yX5_personsAge, Cond.instanceMethod yX5_personsAge, Cond.selects RX5 yX5_personsAge yX5_personsAge, Cond.code yX5_personsAge cX5_personsAge 3 none, Cond.methodLink RX5 82 yX5_leave, Cond.instanceMethod yX5_leave, Cond.selects RX5 yX5_leave yX5_leave, Cond.code yX5_leave cX5_leave 4 none, Cond.fieldLink RX5 86 "NameBook$Book" "gone" "[I", Cond.methodLink RX5 89 yX0_isOpen, Cond.methodLink RX5 95 yX0_addTask, Cond.methodLink RL 84 yX7_years, Cond.instanceMethod yX7_years, Cond.selects RX7 yX7_years yX7_years, Cond.code yX7_years cX7_years 3 (some .int), Cond.constantLong RX7 170 (60), Cond.methodLink RX7 172 yX7_isFarOn, Cond.instanceMethod yX7_isFarOn, Cond.selects RX7 yX7_isFarOn yX7_isFarOn, Cond.code yX7_isFarOn cX7_isFarOn 2 (some .boolean), Cond.methodLink RX7 175 yX7_ended]
def wsL_law_r22 : List Cond := [Cond.instanceMethod yX7_ended, Cond.selects RX7 yX7_ended yX7_ended, Cond.code yX7_ended cX7_ended 1 (some .int), Cond.methodLink RX7 164 yX7_unended, Cond.instanceMethod yX7_unended, Cond.selects RX7 yX7_unended yX7_unended, Cond.code yX7_unended cX7_unended 3 (some .int), Cond.methodLink RX7 178 yX7_yearsGo, Cond.instanceMethod yX7_yearsGo, Cond.selects RX7 yX7_yearsGo yX7_yearsGo, Cond.code yX7_yearsGo cX7_yearsGo 3 none, Cond.methodLink RX7 167 yX7_year, Cond.instanceMethod yX7_year, Cond.selects RX7 yX7_year yX7_year, Cond.code yX7_year cX7_year 2 none, Cond.methodLink RX7 153 yX7_does, Cond.instanceMethod yX7_does, Cond.selects RX7 yX7_does yX7_does, Cond.code yX7_does cX7_does 4 none, Cond.methodLink RX7 144 yX7_work, Cond.instanceMethod yX7_work, Cond.selects RX7 yX7_work yX7_work, Cond.code yX7_work cX7_work 4 (some .int), Cond.methodLink RX7 141 yX7_isBorneThere]
def wsL_law_r23 : List Cond := [Cond.instanceMethod yX7_isBorneThere, Cond.selects RX7 yX7_isBorneThere yX7_isBorneThere, Cond.code yX7_isBorneThere cX7_isBorneThere 3 (some .boolean), Cond.methodLink RX7 147 yX7_held, Cond.static yX7_held, Cond.code yX7_held cX7_held 1 (some .int), Cond.methodLink RX7 157 yX7_helpsNow, Cond.instanceMethod yX7_helpsNow, Cond.selects RX7 yX7_helpsNow yX7_helpsNow, Cond.code yX7_helpsNow cX7_helpsNow 3 none, Cond.methodLink RX7 150 yX7_isFree, Cond.instanceMethod yX7_isFree, Cond.selects RX7 yX7_isFree yX7_isFree, Cond.code yX7_isFree cX7_isFree 3 (some .boolean), Cond.methodLink RX7 161 yX7_leaves, Cond.instanceMethod yX7_leaves, Cond.selects RX7 yX7_leaves yX7_leaves, Cond.code yX7_leaves cX7_leaves 3 none, Cond.methodLink RL 85 yX6_ahead, Cond.instanceMethod yX6_ahead, Cond.selects RX6 yX6_ahead yX6_ahead, Cond.code yX6_ahead cX6_ahead 3 (some .int), Cond.methodLink RX6 166 yX6_lookAhead, Cond.instanceMethod yX6_lookAhead]
def wsL_law_r24 : List Cond := [Cond.selects RX6 yX6_lookAhead yX6_lookAhead, Cond.code yX6_lookAhead cX6_lookAhead 2 none, Cond.methodLink RX6 212 yX0_setTo, Cond.instanceMethod yX0_setTo, Cond.selects RX0 yX0_setTo yX0_setTo, Cond.code yX0_setTo cX0_setTo 2 none, Cond.methodLink RX0 64 arraycopyName, Cond.native arraycopyName, Cond.static arraycopyName, Cond.initialized "java/lang/System", Cond.methodLink RX6 170 yX0_hoursOfAll, Cond.instanceMethod yX0_hoursOfAll, Cond.selects RX0 yX0_hoursOfAll yX0_hoursOfAll, Cond.code yX0_hoursOfAll cX0_hoursOfAll 3 (some .int), Cond.methodLink RX6 173 yX0_openNames, Cond.methodLink RX6 176 yX0_endedWorth, Cond.instanceMethod yX0_endedWorth, Cond.selects RX0 yX0_endedWorth yX0_endedWorth, Cond.code yX0_endedWorth cX0_endedWorth 3 (some .int), Cond.methodLink RX0 114 yX0_worthOf, Cond.instanceMethod yX0_worthOf, Cond.selects RX0 yX0_worthOf yX0_worthOf, Cond.code yX0_worthOf cX0_worthOf 4 (some .int), Cond.methodLink RX6 179 yX0_goneOfAll]
def wsL_law_r25 : List Cond := [Cond.instanceMethod yX0_goneOfAll, Cond.selects RX0 yX0_goneOfAll yX0_goneOfAll, Cond.code yX0_goneOfAll cX0_goneOfAll 3 (some .int), Cond.methodLink RL 88 yX7_ahead, Cond.instanceMethod yX7_ahead, Cond.selects RX7 yX7_ahead yX7_ahead, Cond.code yX7_ahead cX7_ahead 4 (some .int), Cond.constantLong RX7 181 (100), Cond.constantLong RX7 183 (4), Cond.methodLink RX7 185 yX7_row, Cond.static yX7_row, Cond.code yX7_row cX7_row 3 none, Cond.methodLink RX7 189 yX7_hours, Cond.instanceMethod yX7_hours, Cond.selects RX7 yX7_hours yX7_hours, Cond.code yX7_hours cX7_hours 3 (some .int), Cond.methodLink RX7 192 yX7_openNames, Cond.instanceMethod yX7_openNames, Cond.selects RX7 yX7_openNames yX7_openNames, Cond.code yX7_openNames cX7_openNames 3 (some .int), Cond.methodLink RX7 195 yX7_endedWorth, Cond.instanceMethod yX7_endedWorth, Cond.selects RX7 yX7_endedWorth yX7_endedWorth, Cond.code yX7_endedWorth cX7_endedWorth 3 (some .int)]
def wsL_law_r26 : List Cond := [Cond.methodLink RX7 198 yX7_allLives, Cond.instanceMethod yX7_allLives, Cond.selects RX7 yX7_allLives yX7_allLives, Cond.code yX7_allLives cX7_allLives 3 (some .int), Cond.methodLink RL 89 yX6_shut, Cond.instanceMethod yX6_shut, Cond.selects RX6 yX6_shut yX6_shut, Cond.code yX6_shut cX6_shut 3 (some .int), Cond.constant RX6 182 (-1000004), Cond.methodLink RL 92 yX7_shut, Cond.instanceMethod yX7_shut, Cond.selects RX7 yX7_shut yX7_shut, Cond.code yX7_shut cX7_shut 3 (some .int), Cond.constant RX7 44 (-1000004), Cond.methodLink RX7 201 yX7_overIn, Cond.instanceMethod yX7_overIn, Cond.selects RX7 yX7_overIn yX7_overIn, Cond.code yX7_overIn cX7_overIn 5 (some .int), Cond.methodLink RL 93 yX6_ends, Cond.instanceMethod yX6_ends, Cond.selects RX6 yX6_ends yX6_ends, Cond.code yX6_ends cX6_ends 3 (some .int), Cond.methodLink RX6 183 yX0_isEnded, Cond.methodLink RL 96 yX7_ends]
def wsL_law_r27 : List Cond := [Cond.instanceMethod yX7_ends, Cond.selects RX7 yX7_ends yX7_ends, Cond.code yX7_ends cX7_ends 3 (some .int), Cond.methodLink RL 97 yX6_choose, Cond.instanceMethod yX6_choose, Cond.selects RX6 yX6_choose yX6_choose, Cond.code yX6_choose cX6_choose 6 (some .int), Cond.methodLink RX6 186 yX0_freeNames, Cond.instanceMethod yX0_freeNames, Cond.selects RX0 yX0_freeNames yX0_freeNames, Cond.code yX0_freeNames cX0_freeNames 3 (some .int), Cond.methodLink RX6 189 yX6_isShutInTime, Cond.instanceMethod yX6_isShutInTime, Cond.selects RX6 yX6_isShutInTime yX6_isShutInTime, Cond.code yX6_isShutInTime cX6_isShutInTime 4 (some .boolean), Cond.methodLink RL 100 yX7_choose, Cond.instanceMethod yX7_choose, Cond.selects RX7 yX7_choose yX7_choose, Cond.code yX7_choose cX7_choose 4 (some .int), Cond.methodLink RX7 205 yX7_isShutInTime, Cond.instanceMethod yX7_isShutInTime, Cond.selects RX7 yX7_isShutInTime yX7_isShutInTime, Cond.code yX7_isShutInTime cX7_isShutInTime 4 (some .boolean), Cond.methodLink RX7 208 yX7_orNone]
def wsL_law_r28 : List Cond := [Cond.instanceMethod yX7_orNone, Cond.selects RX7 yX7_orNone yX7_orNone, Cond.code yX7_orNone cX7_orNone 2 (some .int), Cond.methodLink RL 101 yX6_handsFor, Cond.instanceMethod yX6_handsFor, Cond.selects RX6 yX6_handsFor yX6_handsFor, Cond.code yX6_handsFor cX6_handsFor 4 (some .int), Cond.methodLink RL 104 yX7_handsFor, Cond.instanceMethod yX7_handsFor, Cond.selects RX7 yX7_handsFor yX7_handsFor, Cond.code yX7_handsFor cX7_handsFor 5 (some .int), Cond.methodLink RL 105 yX6_most, Cond.instanceMethod yX6_most, Cond.selects RX6 yX6_most yX6_most, Cond.code yX6_most cX6_most 3 (some .int), Cond.fieldLink RX6 198 "NameBook$Giving" "sure" "I", Cond.fieldLink RX6 205 "NameBook$Giving" "bestWorth" "I", Cond.methodLink RX6 192 yX6_whyNoGiving, Cond.instanceMethod yX6_whyNoGiving, Cond.selects RX6 yX6_whyNoGiving yX6_whyNoGiving, Cond.code yX6_whyNoGiving cX6_whyNoGiving 2 (some .int), Cond.constant RX6 243 (-1000007), Cond.methodLink RX6 288 yX1_gather, Cond.instanceMethod yX1_gather]
def wsL_law_r29 : List Cond := [Cond.selects RX1 yX1_gather yX1_gather, Cond.code yX1_gather cX1_gather 3 (some .boolean), Cond.fieldLink RX1 35 "NameBook$Giving" "takerCount" "I", Cond.fieldLink RX1 39 "NameBook$Book" "personCount" "I", Cond.fieldLink RX1 44 "NameBook$Book" "borne" "[I", Cond.fieldLink RX1 47 "NameBook$Book" "ages" "[I", Cond.methodLink RX6 195 yX1_begin, Cond.instanceMethod yX1_begin, Cond.selects RX1 yX1_begin yX1_begin, Cond.code yX1_begin cX1_begin 4 none, Cond.fieldLink RX1 50 "NameBook$Giving" "bestWorth" "I", Cond.fieldLink RX1 61 "NameBook$Giving" "sure" "I", Cond.methodLink RX1 53 yX1_findGains, Cond.instanceMethod yX1_findGains, Cond.selects RX1 yX1_findGains yX1_findGains, Cond.code yX1_findGains cX1_findGains 8 none, Cond.methodLink RX1 75 Lib.Math.max.name, Cond.methodLink RX1 72 yX0_freeNames, Cond.methodLink RX1 68 yX1_gainOf, Cond.static yX1_gainOf, Cond.code yX1_gainOf cX1_gainOf 4 (some .int), Cond.fieldLink RX1 89 "NameBook$Book" "worths" "[I", Cond.methodLink RX1 81 yX0_hoursOf, Cond.methodLink RX1 85 yX0_mostWork]
def wsL_law_r30 : List Cond := [Cond.instanceMethod yX0_mostWork, Cond.selects RX0 yX0_mostWork yX0_mostWork, Cond.code yX0_mostWork cX0_mostWork 7 (some .int), Cond.methodLink RX0 95 Lib.Math.min.name, Cond.methodLink RX0 101 Lib.Math.max.name, Cond.methodLink RX0 104 yX0_mostWorkOf, Cond.instanceMethod yX0_mostWorkOf, Cond.selects RX0 yX0_mostWorkOf yX0_mostWorkOf, Cond.code yX0_mostWorkOf cX0_mostWorkOf 4 (some .int), Cond.methodLink RX0 107 yX2_isUnder, Cond.static yX2_isUnder, Cond.code yX2_isUnder cX2_isUnder 4 (some .boolean), Cond.methodLink RX1 57 yX0_endedWorth, Cond.methodLink RX1 64 yX0_isOpen, Cond.methodLink RX6 201 yX1_weighFrom, Cond.instanceMethod yX1_weighFrom, Cond.selects RX1 yX1_weighFrom yX1_weighFrom, Cond.code yX1_weighFrom cX1_weighFrom 7 none, Cond.methodLink RX1 92 yX1_weigh, Cond.instanceMethod yX1_weigh, Cond.selects RX1 yX1_weigh yX1_weigh, Cond.code yX1_weigh cX1_weigh 4 none, Cond.methodLink RX1 108 arraycopyName, Cond.methodLink RX1 99 yX0_setTo]
def wsL_law_r31 : List Cond := [Cond.methodLink RX1 103 yX5_go, Cond.methodLink RX1 95 yX1_weighFrom, Cond.methodLink RL 108 yX7_most, Cond.instanceMethod yX7_most, Cond.selects RX7 yX7_most yX7_most, Cond.code yX7_most cX7_most 3 (some .int), Cond.methodLink RX7 220 yX7_wrongWay, Cond.instanceMethod yX7_wrongWay, Cond.selects RX7 yX7_wrongWay yX7_wrongWay, Cond.code yX7_wrongWay cX7_wrongWay 2 (some .int), Cond.constantLong RX7 214 (40), Cond.constant RX7 219 (-1000007), Cond.methodLink RX7 216 yX7_waiting, Cond.instanceMethod yX7_waiting, Cond.selects RX7 yX7_waiting yX7_waiting, Cond.code yX7_waiting cX7_waiting 3 (some .int), Cond.methodLink RX7 211 yX7_mayGet, Cond.instanceMethod yX7_mayGet, Cond.selects RX7 yX7_mayGet yX7_mayGet, Cond.code yX7_mayGet cX7_mayGet 2 (some .boolean), Cond.methodLink RX7 223 yX7_bestWay, Cond.instanceMethod yX7_bestWay, Cond.selects RX7 yX7_bestWay yX7_bestWay, Cond.code yX7_bestWay cX7_bestWay 10 (some .int)]
def wsL_law_r32 : List Cond := [Cond.methodLink RL 109 yX6_give, Cond.instanceMethod yX6_give, Cond.selects RX6 yX6_give yX6_give, Cond.code yX6_give cX6_give 3 (some .int), Cond.methodLink RX6 208 yX1_carryOut, Cond.instanceMethod yX1_carryOut, Cond.selects RX1 yX1_carryOut yX1_carryOut, Cond.code yX1_carryOut cX1_carryOut 4 (some .int), Cond.methodLink RL 112 yX7_give, Cond.instanceMethod yX7_give, Cond.selects RX7 yX7_give yX7_give, Cond.code yX7_give cX7_give 5 (some .int), Cond.methodLink RL 113 yX6_lives, Cond.instanceMethod yX6_lives, Cond.selects RX6 yX6_lives yX6_lives, Cond.code yX6_lives cX6_lives 4 (some .int), Cond.methodLink RL 116 yX7_lives, Cond.instanceMethod yX7_lives, Cond.selects RX7 yX7_lives yX7_lives, Cond.code yX7_lives cX7_lives 5 (some .int), Cond.methodLink RL 117 yX6_best, Cond.instanceMethod yX6_best, Cond.selects RX6 yX6_best yX6_best, Cond.code yX6_best cX6_best 6 (some .int)]
def wsL_law_r33 : List Cond := [Cond.methodLink RL 120 yX7_best, Cond.instanceMethod yX7_best, Cond.selects RX7 yX7_best yX7_best, Cond.code yX7_best cX7_best 7 (some .int), Cond.methodLink RX7 226 yX7_hoursBehind, Cond.instanceMethod yX7_hoursBehind, Cond.selects RX7 yX7_hoursBehind yX7_hoursBehind, Cond.code yX7_hoursBehind cX7_hoursBehind 3 (some .int), Cond.methodLink RL 121 yX6_whom, Cond.instanceMethod yX6_whom, Cond.selects RX6 yX6_whom yX6_whom, Cond.code yX6_whom cX6_whom 7 (some .int), Cond.methodLink RL 124 yX7_whom, Cond.instanceMethod yX7_whom, Cond.selects RX7 yX7_whom yX7_whom, Cond.code yX7_whom cX7_whom 9 (some .int), Cond.methodLink RL 125 yX6_seed, Cond.instanceMethod yX6_seed, Cond.selects RX6 yX6_seed yX6_seed, Cond.code yX6_seed cX6_seed 3 (some .int), Cond.fieldLink RX6 216 "NameBook$Book" "z" "I", Cond.methodLink RL 128 yX7_seed, Cond.instanceMethod yX7_seed, Cond.selects RX7 yX7_seed yX7_seed]
def wsL_law_r34 : List Cond := [Cond.code yX7_seed cX7_seed 2 (some .int), Cond.methodLink RL 129 yX6_feed, Cond.instanceMethod yX6_feed, Cond.selects RX6 yX6_feed yX6_feed, Cond.code yX6_feed cX6_feed 3 (some .int), Cond.methodLink RX6 219 yX4_hasRoomFor, Cond.instanceMethod yX4_hasRoomFor, Cond.selects RX4 yX4_hasRoomFor yX4_hasRoomFor, Cond.code yX4_hasRoomFor cX4_hasRoomFor 2 (some .boolean), Cond.fieldLink RX4 15 "NameBook$Tape" "length" "I", Cond.methodLink RX6 222 yX4_append, Cond.instanceMethod yX4_append, Cond.selects RX4 yX4_append yX4_append, Cond.code yX4_append cX4_append 4 (some .int), Cond.methodLink RL 132 yX7_feed, Cond.instanceMethod yX7_feed, Cond.selects RX7 yX7_feed yX7_feed, Cond.code yX7_feed cX7_feed 4 (some .int), Cond.fieldLink RX7 229 "NameBookModel" "taped" "I", Cond.methodLink RL 133 yX6_wipe, Cond.instanceMethod yX6_wipe, Cond.selects RX6 yX6_wipe yX6_wipe, Cond.code yX6_wipe cX6_wipe 1 (some .int), Cond.methodLink RX6 226 yX4_clear]
def wsL_law_r35 : List Cond := [Cond.instanceMethod yX4_clear, Cond.selects RX4 yX4_clear yX4_clear, Cond.code yX4_clear cX4_clear 2 (some .int), Cond.methodLink RL 136 yX7_wipe, Cond.instanceMethod yX7_wipe, Cond.selects RX7 yX7_wipe yX7_wipe, Cond.code yX7_wipe cX7_wipe 2 (some .int), Cond.methodLink RL 137 yX6_text, Cond.instanceMethod yX6_text, Cond.selects RX6 yX6_text yX6_text, Cond.code yX6_text cX6_text 2 (some .int), Cond.methodLink RX6 229 yX4_readInto, Cond.instanceMethod yX4_readInto, Cond.selects RX4 yX4_readInto yX4_readInto, Cond.code yX4_readInto cX4_readInto 3 (some .int), Cond.fieldLink RX4 19 "NameBook$Tape" "end" "I", Cond.fieldLink RX4 29 "NameBook$Tape" "sort" "I", Cond.fieldLink RX4 32 "NameBook$Tape" "start" "I", Cond.methodLink RX4 22 yX4_advance, Cond.instanceMethod yX4_advance, Cond.selects RX4 yX4_advance yX4_advance, Cond.code yX4_advance cX4_advance 1 none, Cond.methodLink RX4 35 yX4_isLetter, Cond.instanceMethod yX4_isLetter]
def wsL_law_r36 : List Cond := [Cond.selects RX4 yX4_isLetter yX4_isLetter, Cond.code yX4_isLetter cX4_isLetter 2 (some .boolean), Cond.methodLink RX4 39 yX4_isDigit, Cond.instanceMethod yX4_isDigit, Cond.selects RX4 yX4_isDigit yX4_isDigit, Cond.code yX4_isDigit cX4_isDigit 2 (some .boolean), Cond.methodLink RX4 42 yX4_readNumber, Cond.instanceMethod yX4_readNumber, Cond.selects RX4 yX4_readNumber yX4_readNumber, Cond.code yX4_readNumber cX4_readNumber 1 none, Cond.fieldLink RX4 45 "NameBook$Tape" "value" "I", Cond.methodLink RX4 48 Lib.Math.min.name, Cond.methodLink RX4 25 yX4_readItem, Cond.instanceMethod yX4_readItem, Cond.selects RX4 yX4_readItem yX4_readItem, Cond.code yX4_readItem cX4_readItem 3 (some .boolean), Cond.fieldLink RX4 77 "NameBook$Book" "personCount" "I", Cond.fieldLink RX4 88 "NameBook$Book" "taskCount" "I", Cond.methodLink RX4 69 yX4_passWord, Cond.instanceMethod yX4_passWord, Cond.selects RX4 yX4_passWord yX4_passWord, Cond.code yX4_passWord cX4_passWord 3 (some .boolean), Cond.methodLink RX4 63 yX4_isWord, Cond.instanceMethod yX4_isWord]
def wsL_law_r37 : List Cond := [Cond.selects RX4 yX4_isWord yX4_isWord, Cond.code yX4_isWord cX4_isWord 3 (some .boolean), Cond.methodLink RX4 54 yJ0_length_8abf5, Cond.instanceMethod yJ0_length_8abf5, Cond.selects RJ0 yJ0_length_8abf5 yJ0_length_8abf5, Cond.initialized RJ0, Cond.code yJ0_length_8abf5 cJ0_length_8abf5 1 (some .int), Cond.fieldLink RJ0 9 "java/lang/String" "value" "[B", Cond.methodLink RJ0 335 yJ0_coder_7d493, Cond.instanceMethod yJ0_coder_7d493, Cond.selects RJ0 yJ0_coder_7d493 yJ0_coder_7d493, Cond.code yJ0_coder_7d493 cJ0_coder_7d493 1 (some .byte), Cond.fieldLink RJ0 38 "java/lang/String" "COMPACT_STRINGS" "Z", Cond.fieldLink RJ0 15 "java/lang/String" "coder" "B", Cond.methodLink RX4 59 yJ0_charAt_5068e, Cond.instanceMethod yJ0_charAt_5068e, Cond.selects RJ0 yJ0_charAt_5068e yJ0_charAt_5068e, Cond.code yJ0_charAt_5068e cJ0_charAt_5068e 2 (some .char), Cond.methodLink RJ0 492 yJ0_isLatin1_aae02, Cond.instanceMethod yJ0_isLatin1_aae02, Cond.selects RJ0 yJ0_isLatin1_aae02 yJ0_isLatin1_aae02, Cond.code yJ0_isLatin1_aae02 cJ0_isLatin1_aae02 1 (some .boolean), Cond.methodLink RJ0 495 yJ1_charAt_3b067, Cond.static yJ1_charAt_3b067]
def wsL_law_r38 : List Cond := [Cond.initialized RJ1, Cond.code yJ1_charAt_3b067 cJ1_charAt_3b067 2 (some .char), Cond.methodLink RJ1 9 yJ0_checkIndex_df160, Cond.static yJ0_checkIndex_df160, Cond.code yJ0_checkIndex_df160 cJ0_checkIndex_df160 2 none, Cond.fieldLink RJ0 1053 "jdk/internal/util/Preconditions" "SIOOBE_FORMATTER" "Ljava/util/function/BiFunction;", Cond.methodLink RJ0 1059 yJ3_checkIndex_8e157, Cond.static yJ3_checkIndex_8e157, Cond.initialized RJ3, Cond.code yJ3_checkIndex_8e157 cJ3_checkIndex_8e157 3 (some .int), Cond.methodLink RJ0 498 yJ2_charAt_3b067, Cond.static yJ2_charAt_3b067, Cond.initialized RJ2, Cond.code yJ2_charAt_3b067 cJ2_charAt_3b067 2 (some .char), Cond.methodLink RJ2 67 yJ2_checkIndex_2214a, Cond.static yJ2_checkIndex_2214a, Cond.code yJ2_checkIndex_2214a cJ2_checkIndex_2214a 2 none, Cond.methodLink RJ2 48 yJ2_length_9d52b, Cond.static yJ2_length_9d52b, Cond.code yJ2_length_9d52b cJ2_length_9d52b 1 (some .int), Cond.methodLink RJ2 414 yJ0_checkIndex_df160, Cond.methodLink RJ2 71 yJ2_getChar_3b067, Cond.static yJ2_getChar_3b067, Cond.code yJ2_getChar_3b067 cJ2_getChar_3b067 2 (some .char)]
def wsL_law_r39 : List Cond := [Cond.fieldLink RJ2 44 "java/lang/StringUTF16" "$assertionsDisabled" "Z", Cond.fieldLink RJ2 59 "java/lang/StringUTF16" "HI_BYTE_SHIFT" "I", Cond.fieldLink RJ2 63 "java/lang/StringUTF16" "LO_BYTE_SHIFT" "I", Cond.methodLink RX4 72 yX4_readName, Cond.instanceMethod yX4_readName, Cond.selects RX4 yX4_readName yX4_readName, Cond.code yX4_readName cX4_readName 4 (some .boolean), Cond.fieldLink RX4 116 "NameBook$Book" "worths" "[I", Cond.methodLink RX4 111 yX4_passNumber, Cond.instanceMethod yX4_passNumber, Cond.selects RX4 yX4_passNumber yX4_passNumber, Cond.code yX4_passNumber cX4_passNumber 4 (some .int), Cond.methodLink RX4 82 yX4_readPerson, Cond.instanceMethod yX4_readPerson, Cond.selects RX4 yX4_readPerson yX4_readPerson, Cond.code yX4_readPerson cX4_readPerson 5 (some .boolean), Cond.methodLink RX4 133 yX0_bearerOf, Cond.methodLink RX4 137 yX0_addPerson, Cond.methodLink RX4 85 yX4_kindHere, Cond.instanceMethod yX4_kindHere, Cond.selects RX4 yX4_kindHere yX4_kindHere, Cond.code yX4_kindHere cX4_kindHere 1 (some .int), Cond.methodLink RX4 91 yX4_readTask, Cond.instanceMethod yX4_readTask]
def wsL_law_r40 : List Cond := [Cond.selects RX4 yX4_readTask yX4_readTask, Cond.code yX4_readTask cX4_readTask 6 (some .boolean), Cond.methodLink RX4 123 yX0_addTask, Cond.methodLink RL 140 yX7_text, Cond.instanceMethod yX7_text, Cond.selects RX7 yX7_text yX7_text, Cond.code yX7_text cX7_text 4 (some .int), Cond.fieldLink RX7 233 "NameBookModel" "to" "I", Cond.fieldLink RX7 249 "NameBookModel" "bad" "Z", Cond.fieldLink RX7 246 "NameBookModel" "sort" "I", Cond.fieldLink RX7 236 "NameBookModel" "from" "I", Cond.methodLink RX7 266 yX7_token, Cond.instanceMethod yX7_token, Cond.selects RX7 yX7_token yX7_token, Cond.code yX7_token cX7_token 1 none, Cond.fieldLink RX7 243 "NameBookModel" "value" "I", Cond.methodLink RX7 239 yX7_isByte, Cond.instanceMethod yX7_isByte, Cond.selects RX7 yX7_isByte yX7_isByte, Cond.code yX7_isByte cX7_isByte 4 (some .boolean), Cond.methodLink RX7 320 yX7_item, Cond.instanceMethod yX7_item, Cond.selects RX7 yX7_item yX7_item, Cond.code yX7_item cX7_item 2 none]
def wsL_law_r41 : List Cond := [Cond.methodLink RX7 306 yX7_kindHere, Cond.instanceMethod yX7_kindHere, Cond.selects RX7 yX7_kindHere yX7_kindHere, Cond.code yX7_kindHere cX7_kindHere 1 (some .int), Cond.methodLink RX7 262 yX7_isWord, Cond.instanceMethod yX7_isWord, Cond.selects RX7 yX7_isWord yX7_isWord, Cond.code yX7_isWord cX7_isWord 4 (some .boolean), Cond.methodLink RX7 253 yJ0_length_8abf5, Cond.methodLink RX7 258 yJ0_charAt_5068e, Cond.methodLink RX7 269 yX7_takes, Cond.instanceMethod yX7_takes, Cond.selects RX7 yX7_takes yX7_takes, Cond.code yX7_takes cX7_takes 2 (some .boolean), Cond.methodLink RX7 311 yX7_nameItem, Cond.instanceMethod yX7_nameItem, Cond.selects RX7 yX7_nameItem yX7_nameItem, Cond.code yX7_nameItem cX7_nameItem 3 none, Cond.methodLink RX7 286 yX7_number, Cond.instanceMethod yX7_number, Cond.selects RX7 yX7_number yX7_number, Cond.code yX7_number cX7_number 5 (some .int), Cond.methodLink RX7 291 yX7_word, Cond.instanceMethod yX7_word]
def wsL_law_r42 : List Cond := [Cond.selects RX7 yX7_word yX7_word, Cond.code yX7_word cX7_word 2 none, Cond.methodLink RX7 314 yX7_taskItem, Cond.instanceMethod yX7_taskItem, Cond.selects RX7 yX7_taskItem yX7_taskItem, Cond.code yX7_taskItem cX7_taskItem 5 none, Cond.methodLink RX7 317 yX7_personItem, Cond.instanceMethod yX7_personItem, Cond.selects RX7 yX7_personItem yX7_personItem, Cond.code yX7_personItem cX7_personItem 4 none, Cond.methodLink RX7 323 yX7_isSign, Cond.instanceMethod yX7_isSign, Cond.selects RX7 yX7_isSign yX7_isSign, Cond.code yX7_isSign cX7_isSign 2 (some .boolean), Cond.methodLink RL 141 yX6_hold, Cond.instanceMethod yX6_hold, Cond.selects RX6 yX6_hold yX6_hold, Cond.code yX6_hold cX6_hold 3 (some .int), Cond.fieldLink RX6 232 "NameBook$Book" "spots" "[I", Cond.methodLink RL 144 yX7_hold, Cond.instanceMethod yX7_hold, Cond.selects RX7 yX7_hold yX7_hold, Cond.code yX7_hold cX7_hold 3 (some .int), Cond.methodLink RL 145 yX6_as]
def wsL_law_r43 : List Cond := [Cond.instanceMethod yX6_as, Cond.selects RX6 yX6_as yX6_as, Cond.code yX6_as cX6_as 4 (some .int), Cond.constant RX6 235 (-1000006), Cond.constant RX6 239 (-1000003), Cond.methodLink RX6 236 yX2_isUnder, Cond.methodLink RL 148 yX7_as, Cond.instanceMethod yX7_as, Cond.selects RX7 yX7_as yX7_as, Cond.code yX7_as cX7_as 5 (some .int), Cond.constant RX7 326 (-1000006), Cond.constant RX7 330 (-1000003), Cond.methodLink RX7 327 yX7_above, Cond.static yX7_above, Cond.code yX7_above cX7_above 1 (some .int), Cond.methodLink RL 149 yX6_sheet, Cond.instanceMethod yX6_sheet, Cond.selects RX6 yX6_sheet yX6_sheet, Cond.code yX6_sheet cX6_sheet 4 (some .int), Cond.methodLink RX6 240 yX6_isSheet, Cond.static yX6_isSheet, Cond.code yX6_isSheet cX6_isSheet 1 (some .boolean), Cond.methodLink RX6 244 yX3_become, Cond.instanceMethod yX3_become]
def wsL_law_r44 : List Cond := [Cond.selects RX3 yX3_become yX3_become, Cond.code yX3_become cX3_become 3 (some .int), Cond.fieldLink RX3 13 "NameBook$Sheet" "bits" "I", Cond.fieldLink RX3 17 "NameBook$Sheet" "size" "I", Cond.methodLink RX3 20 yJ7_fill_53178, Cond.methodLink RL 152 yX7_sheet, Cond.instanceMethod yX7_sheet, Cond.selects RX7 yX7_sheet yX7_sheet, Cond.code yX7_sheet cX7_sheet 5 (some .int), Cond.methodLink RX7 331 yX7_isSheet, Cond.static yX7_isSheet, Cond.code yX7_isSheet cX7_isSheet 1 (some .boolean), Cond.methodLink RL 153 yX6_write, Cond.instanceMethod yX6_write, Cond.selects RX6 yX6_write yX6_write, Cond.code yX6_write cX6_write 4 (some .int), Cond.fieldLink RX6 251 "NameBook$Sheet" "size" "I", Cond.methodLink RX6 247 yX3_isMissing, Cond.instanceMethod yX3_isMissing, Cond.selects RX3 yX3_isMissing yX3_isMissing, Cond.code yX3_isMissing cX3_isMissing 1 (some .boolean), Cond.methodLink RX6 254 yX3_put, Cond.instanceMethod yX3_put, Cond.selects RX3 yX3_put yX3_put]
def wsL_law_r45 : List Cond := [Cond.code yX3_put cX3_put 3 none, Cond.methodLink RL 156 yX7_write, Cond.instanceMethod yX7_write, Cond.selects RX7 yX7_write yX7_write, Cond.code yX7_write cX7_write 4 (some .int), Cond.methodLink RL 157 yX6_copy, Cond.instanceMethod yX6_copy, Cond.selects RX6 yX6_copy yX6_copy, Cond.code yX6_copy cX6_copy 6 (some .int), Cond.fieldLink RX6 258 "NameBook$Sheet" "bits" "I", Cond.fieldLink RX6 264 "NameBook$Sheet" "numbers" "[I", Cond.methodLink RX6 267 arraycopyName, Cond.methodLink RX6 261 yX3_hasRange, Cond.instanceMethod yX3_hasRange, Cond.selects RX3 yX3_hasRange yX3_hasRange, Cond.code yX3_hasRange cX3_hasRange 3 (some .boolean), Cond.methodLink RL 161 yX7_copy, Cond.instanceMethod yX7_copy, Cond.selects RX7 yX7_copy yX7_copy, Cond.code yX7_copy cX7_copy 9 (some .int), Cond.methodLink RL 162 yX6_load, Cond.instanceMethod yX6_load, Cond.selects RX6 yX6_load yX6_load, Cond.code yX6_load cX6_load 5 (some .int)]
def wsL_law_r46 : List Cond := [Cond.methodLink RX6 273 Lib.Math.min.name, Cond.methodLink RL 165 yX7_load, Cond.instanceMethod yX7_load, Cond.selects RX7 yX7_load yX7_load, Cond.code yX7_load cX7_load 3 (some .int), Cond.methodLink RL 166 yX6_judge, Cond.instanceMethod yX6_judge, Cond.selects RX6 yX6_judge yX6_judge, Cond.code yX6_judge cX6_judge 6 (some .int), Cond.methodLink RL 169 yX7_judge, Cond.instanceMethod yX7_judge, Cond.selects RX7 yX7_judge yX7_judge, Cond.code yX7_judge cX7_judge 5 (some .int), Cond.methodLink RL 170 yX6_image, Cond.instanceMethod yX6_image, Cond.selects RX6 yX6_image yX6_image, Cond.code yX6_image cX6_image 1 (some .int), Cond.fieldLink RX6 278 "NameBook" "isKept" "Z", Cond.methodLink RL 173 yX7_image, Cond.instanceMethod yX7_image, Cond.selects RX7 yX7_image yX7_image, Cond.code yX7_image cX7_image 1 (some .int), Cond.fieldLink RX7 334 "NameBookModel" "isKept" "Z", Cond.methodLink RL 174 yX6_undo]
def wsL_law_r47 : List Cond := [Cond.instanceMethod yX6_undo, Cond.selects RX6 yX6_undo yX6_undo, Cond.code yX6_undo cX6_undo 1 (some .int), Cond.methodLink RL 177 yX7_undo, Cond.instanceMethod yX7_undo, Cond.selects RX7 yX7_undo yX7_undo, Cond.code yX7_undo cX7_undo 1 (some .int), Cond.methodLink RL 178 yX6_tear, Cond.instanceMethod yX6_tear, Cond.selects RX6 yX6_tear yX6_tear, Cond.code yX6_tear cX6_tear 2 (some .int), Cond.methodLink RL 181 yX7_tear, Cond.instanceMethod yX7_tear, Cond.selects RX7 yX7_tear yX7_tear, Cond.code yX7_tear cX7_tear 2 (some .int), Cond.methodLink RL 182 yX6_count, Cond.instanceMethod yX6_count, Cond.selects RX6 yX6_count yX6_count, Cond.code yX6_count cX6_count 2 (some .int), Cond.fieldLink RX6 285 "NameBook$Tape" "length" "I", Cond.methodLink RL 185 yX7_count, Cond.instanceMethod yX7_count, Cond.selects RX7 yX7_count yX7_count, Cond.code yX7_count cX7_count 2 (some .int)]
def wsL_law_r48 : List Cond := [Cond.methodLink RL 186 yX6_status, Cond.instanceMethod yX6_status, Cond.selects RX6 yX6_status yX6_status, Cond.code yX6_status cX6_status 4 (some .int), Cond.methodLink RL 189 yX7_status, Cond.instanceMethod yX7_status, Cond.selects RX7 yX7_status yX7_status, Cond.code yX7_status cX7_status 4 (some .int), Cond.constantLong RX7 337 (-1)]
def wsL_law : List Cond := (wsL_law_r1 ++ (wsL_law_r2 ++ (wsL_law_r3 ++ (wsL_law_r4 ++ (wsL_law_r5 ++ (wsL_law_r6 ++ (wsL_law_r7 ++ (wsL_law_r8 ++ (wsL_law_r9 ++ (wsL_law_r10 ++ (wsL_law_r11 ++ (wsL_law_r12 ++ (wsL_law_r13 ++ (wsL_law_r14 ++ (wsL_law_r15 ++ (wsL_law_r16 ++ (wsL_law_r17 ++ (wsL_law_r18 ++ (wsL_law_r19 ++ (wsL_law_r20 ++ (wsL_law_r21 ++ (wsL_law_r22 ++ (wsL_law_r23 ++ (wsL_law_r24 ++ (wsL_law_r25 ++ (wsL_law_r26 ++ (wsL_law_r27 ++ (wsL_law_r28 ++ (wsL_law_r29 ++ (wsL_law_r30 ++ (wsL_law_r31 ++ (wsL_law_r32 ++ (wsL_law_r33 ++ (wsL_law_r34 ++ (wsL_law_r35 ++ (wsL_law_r36 ++ (wsL_law_r37 ++ (wsL_law_r38 ++ (wsL_law_r39 ++ (wsL_law_r40 ++ (wsL_law_r41 ++ (wsL_law_r42 ++ (wsL_law_r43 ++ (wsL_law_r44 ++ (wsL_law_r45 ++ (wsL_law_r46 ++ (wsL_law_r47 ++ wsL_law_r48))))))))))))))))))))))))))))))))))))))))))))))) ++ wsX60 ++ wsX70 ++ wsX00 ++ wsX50 ++ wsX10 ++ wsX40 ++ wsX30 ++ ([] : List Cond)
theorem wl_in {a : List Cond} {ps : List Nat} (h : a = ps.filterMap (fun i => lw_tbl[i]?)) : ∀ w ∈ a, w ∈ lw_tbl := by
  intro w hw
  rw [h] at hw
  obtain ⟨i, -, hi⟩ := List.mem_filterMap.mp hw
  exact List.mem_of_getElem? hi
theorem wl_app {a b : List Cond} (ha : ∀ w ∈ a, w ∈ lw_tbl) (hb : ∀ w ∈ b, w ∈ lw_tbl) : ∀ w ∈ a ++ b, w ∈ lw_tbl := fun w h => (List.mem_append.mp h).elim (ha w) (hb w)
set_option maxRecDepth 20000 in
theorem wl_wsL_law_r1 : wsL_law_r1 = [96, 97, 81, 880, 881, 88, 98, 99, 100, 101, 102, 103, 104, 105, 82, 287, 288, 289, 192, 193, 84, 290, 202, 203].filterMap (fun i => lw_tbl[i]?) := by decide +kernel
set_option maxRecDepth 20000 in
theorem wl_wsL_law_r2 : wsL_law_r2 = [85, 291, 241, 242, 86, 292, 267, 293, 191, 294, 269, 87, 106, 107, 108, 109, 116, 127, 131, 134, 137, 139, 142, 144].filterMap (fun i => lw_tbl[i]?) := by decide +kernel
set_option maxRecDepth 20000 in
theorem wl_wsL_law_r3 : wsL_law_r3 = [148, 152, 155, 158, 110, 111, 83, 112, 195, 196, 197, 198, 204, 205, 206, 207, 210, 211, 212, 213, 214, 208, 209, 244].filterMap (fun i => lw_tbl[i]?) := by decide +kernel
set_option maxRecDepth 20000 in
theorem wl_wsL_law_r4 : wsL_law_r4 = [245, 246, 247, 271, 272, 273, 274, 882, 883, 884, 885, 886, 887, 888, 889, 891, 892, 893, 894, 901, 902, 903, 315, 316].filterMap (fun i => lw_tbl[i]?) := by decide +kernel
set_option maxRecDepth 20000 in
theorem wl_wsL_law_r5 : wsL_law_r5 = [317, 318, 325, 128, 319, 320, 321, 322, 323, 324, 326, 328, 0, 329, 941, 942, 943, 944, 952, 957, 945, 946, 947, 948].filterMap (fun i => lw_tbl[i]?) := by decide +kernel
set_option maxRecDepth 20000 in
theorem wl_wsL_law_r6 : wsL_law_r6 = [949, 950, 951, 953, 955, 27, 956, 958, 960, 28, 961, 330, 331, 332, 333, 119, 339, 334, 335, 89, 336, 337, 340, 341].filterMap (fun i => lw_tbl[i]?) := by decide +kernel
set_option maxRecDepth 20000 in
theorem wl_wsL_law_r7 : wsL_law_r7 = [342, 343, 118, 962, 963, 964, 965, 970, 971, 966, 967, 968, 969, 972, 974, 29, 975, 344, 345, 346, 347, 135, 138, 140].filterMap (fun i => lw_tbl[i]?) := by decide +kernel
set_option maxRecDepth 20000 in
theorem wl_wsL_law_r8 : wsL_law_r8 = [143, 348, 349, 350, 351, 352, 353, 354, 355, 113, 356, 357, 358, 359, 360, 361, 362, 363, 364, 365, 366, 367, 976, 977].filterMap (fun i => lw_tbl[i]?) := by decide +kernel
set_option maxRecDepth 20000 in
theorem wl_wsL_law_r9 : wsL_law_r9 = [978, 979, 984, 980, 982, 30, 983, 985, 987, 31, 988, 989, 991, 32, 992, 993, 995, 33, 996, 997, 999, 34, 1000, 1001].filterMap (fun i => lw_tbl[i]?) := by decide +kernel
set_option maxRecDepth 20000 in
theorem wl_wsL_law_r10 : wsL_law_r10 = [1003, 35, 1004, 368, 369, 370, 371, 1005, 1006, 1007, 1008, 372, 373, 374, 375, 1009, 1010, 1011, 1012, 376, 377, 378, 379, 1013].filterMap (fun i => lw_tbl[i]?) := by decide +kernel
set_option maxRecDepth 20000 in
theorem wl_wsL_law_r11 : wsL_law_r11 = [1014, 1015, 1016, 380, 381, 382, 383, 133, 384, 385, 386, 387, 388, 389, 390, 391, 392, 393, 394, 395, 123, 396, 397, 398].filterMap (fun i => lw_tbl[i]?) := by decide +kernel
set_option maxRecDepth 20000 in
theorem wl_wsL_law_r12 : wsL_law_r12 = [399, 400, 401, 402, 403, 404, 405, 406, 407, 408, 410, 1, 411, 1017, 1018, 1019, 1020, 1021, 1023, 36, 1024, 1025, 1027, 37].filterMap (fun i => lw_tbl[i]?) := by decide +kernel
set_option maxRecDepth 20000 in
theorem wl_wsL_law_r13 : wsL_law_r13 = [1028, 1029, 1031, 38, 1032, 1033, 1035, 39, 1036, 1037, 1039, 40, 1040, 412, 413, 414, 415, 1041, 1042, 1043, 1044, 416, 417, 418].filterMap (fun i => lw_tbl[i]?) := by decide +kernel
set_option maxRecDepth 20000 in
theorem wl_wsL_law_r14 : wsL_law_r14 = [419, 1045, 1046, 1047, 1048, 420, 421, 422, 423, 125, 424, 425, 426, 427, 1049, 1050, 1051, 1052, 1053, 1054, 1055, 1056, 1057, 1059].filterMap (fun i => lw_tbl[i]?) := by decide +kernel
set_option maxRecDepth 20000 in
theorem wl_wsL_law_r15 : wsL_law_r15 = [41, 1060, 428, 429, 430, 431, 147, 151, 154, 157, 432, 433, 434, 435, 1061, 1062, 1063, 1064, 1069, 1065, 1067, 42, 1068, 436].filterMap (fun i => lw_tbl[i]?) := by decide +kernel
set_option maxRecDepth 20000 in
theorem wl_wsL_law_r16 : wsL_law_r16 = [437, 438, 439, 1070, 1071, 1072, 1073, 1074, 440, 441, 442, 443, 1075, 1076, 1077, 1078, 444, 445, 446, 447, 453, 448, 449, 450].filterMap (fun i => lw_tbl[i]?) := by decide +kernel
set_option maxRecDepth 20000 in
theorem wl_wsL_law_r17 : wsL_law_r17 = [451, 452, 1079, 1080, 1081, 1082, 1083, 1085, 43, 1086, 1087, 454, 455, 456, 457, 1088, 1089, 1090, 1091, 458, 459, 460, 461, 462].filterMap (fun i => lw_tbl[i]?) := by decide +kernel
set_option maxRecDepth 20000 in
theorem wl_wsL_law_r18 : wsL_law_r18 = [463, 464, 465, 466, 1092, 1093, 1094, 1095, 1096, 1097, 1099, 44, 1100, 1101, 467, 468, 469, 470, 471, 473, 2, 474, 115, 475].filterMap (fun i => lw_tbl[i]?) := by decide +kernel
set_option maxRecDepth 20000 in
theorem wl_wsL_law_r19 : wsL_law_r19 = [476, 477, 478, 479, 480, 481, 482, 114, 483, 484, 485, 486, 487, 489, 3, 490, 124, 146, 150, 153, 491, 493, 4, 494].filterMap (fun i => lw_tbl[i]?) := by decide +kernel
set_option maxRecDepth 20000 in
theorem wl_wsL_law_r20 : wsL_law_r20 = [141, 502, 503, 90, 504, 495, 496, 497, 498, 499, 500, 501, 505, 507, 5, 508, 156, 509, 511, 6, 512, 120, 136, 514].filterMap (fun i => lw_tbl[i]?) := by decide +kernel
set_option maxRecDepth 20000 in
theorem wl_wsL_law_r21 : wsL_law_r21 = [515, 516, 513, 517, 519, 7, 520, 521, 523, 8, 524, 132, 525, 526, 1102, 1103, 1104, 1105, 1106, 1107, 1109, 45, 1110, 1111].filterMap (fun i => lw_tbl[i]?) := by decide +kernel
set_option maxRecDepth 20000 in
theorem wl_wsL_law_r22 : wsL_law_r22 = [1113, 46, 1114, 1115, 1117, 47, 1118, 1119, 1121, 48, 1122, 1123, 1125, 49, 1126, 1127, 1129, 50, 1130, 1131, 1133, 51, 1134, 1135].filterMap (fun i => lw_tbl[i]?) := by decide +kernel
set_option maxRecDepth 20000 in
theorem wl_wsL_law_r23 : wsL_law_r23 = [1137, 52, 1138, 1139, 1140, 1141, 1142, 1144, 53, 1145, 1146, 1148, 54, 1149, 1150, 1152, 55, 1153, 527, 528, 529, 530, 531, 533].filterMap (fun i => lw_tbl[i]?) := by decide +kernel
set_option maxRecDepth 20000 in
theorem wl_wsL_law_r24 : wsL_law_r24 = [9, 534, 535, 536, 537, 538, 539, 541, 540, 91, 542, 543, 544, 545, 546, 547, 548, 549, 550, 551, 552, 553, 554, 555].filterMap (fun i => lw_tbl[i]?) := by decide +kernel
set_option maxRecDepth 20000 in
theorem wl_wsL_law_r25 : wsL_law_r25 = [556, 557, 558, 1154, 1155, 1156, 1157, 1158, 1159, 1160, 1161, 1162, 1163, 1165, 56, 1166, 1167, 1169, 57, 1170, 1171, 1173, 58, 1174].filterMap (fun i => lw_tbl[i]?) := by decide +kernel
set_option maxRecDepth 20000 in
theorem wl_wsL_law_r26 : wsL_law_r26 = [1175, 1177, 59, 1178, 559, 560, 561, 562, 563, 1179, 1180, 1181, 1182, 1187, 1183, 1185, 60, 1186, 564, 565, 566, 567, 568, 1188].filterMap (fun i => lw_tbl[i]?) := by decide +kernel
set_option maxRecDepth 20000 in
theorem wl_wsL_law_r27 : wsL_law_r27 = [1189, 1190, 1191, 569, 570, 571, 572, 573, 574, 575, 576, 577, 579, 10, 580, 1192, 1193, 1194, 1195, 1196, 1198, 61, 1199, 1200].filterMap (fun i => lw_tbl[i]?) := by decide +kernel
set_option maxRecDepth 20000 in
theorem wl_wsL_law_r28 : wsL_law_r28 = [1202, 62, 1203, 581, 582, 583, 584, 1204, 1205, 1206, 1207, 585, 586, 587, 588, 217, 219, 589, 591, 11, 592, 597, 593, 594].filterMap (fun i => lw_tbl[i]?) := by decide +kernel
set_option maxRecDepth 20000 in
theorem wl_wsL_law_r29 : wsL_law_r29 = [595, 596, 215, 122, 145, 149, 598, 599, 600, 601, 218, 216, 602, 604, 12, 605, 624, 606, 607, 608, 609, 129, 610, 611].filterMap (fun i => lw_tbl[i]?) := by decide +kernel
set_option maxRecDepth 20000 in
theorem wl_wsL_law_r30 : wsL_law_r30 = [612, 613, 614, 615, 616, 617, 619, 13, 620, 621, 622, 623, 625, 626, 627, 628, 629, 630, 631, 633, 14, 634, 637, 635].filterMap (fun i => lw_tbl[i]?) := by decide +kernel
set_option maxRecDepth 20000 in
theorem wl_wsL_law_r31 : wsL_law_r31 = [636, 638, 1208, 1209, 1210, 1211, 1212, 1214, 63, 1215, 1216, 1225, 1217, 1219, 64, 1220, 1221, 1223, 65, 1224, 1226, 1228, 66, 1229].filterMap (fun i => lw_tbl[i]?) := by decide +kernel
set_option maxRecDepth 20000 in
theorem wl_wsL_law_r32 : wsL_law_r32 = [639, 640, 641, 642, 643, 644, 645, 646, 1230, 1231, 1232, 1233, 647, 648, 649, 650, 1234, 1235, 1236, 1237, 651, 652, 653, 654].filterMap (fun i => lw_tbl[i]?) := by decide +kernel
set_option maxRecDepth 20000 in
theorem wl_wsL_law_r33 : wsL_law_r33 = [1238, 1239, 1240, 1241, 1242, 1244, 67, 1245, 655, 656, 657, 658, 1246, 1247, 1248, 1249, 659, 660, 661, 662, 117, 1250, 1251, 1252].filterMap (fun i => lw_tbl[i]?) := by decide +kernel
set_option maxRecDepth 20000 in
theorem wl_wsL_law_r34 : wsL_law_r34 = [1253, 663, 664, 665, 666, 667, 668, 669, 670, 248, 671, 672, 673, 674, 1254, 1255, 1256, 1257, 895, 675, 676, 677, 678, 679].filterMap (fun i => lw_tbl[i]?) := by decide +kernel
set_option maxRecDepth 20000 in
theorem wl_wsL_law_r35 : wsL_law_r35 = [680, 681, 682, 1258, 1259, 1260, 1261, 683, 684, 685, 686, 687, 688, 689, 690, 252, 250, 251, 691, 693, 15, 694, 695, 697].filterMap (fun i => lw_tbl[i]?) := by decide +kernel
set_option maxRecDepth 20000 in
theorem wl_wsL_law_r36 : wsL_law_r36 = [16, 698, 699, 701, 17, 702, 703, 705, 18, 706, 253, 707, 708, 710, 19, 711, 126, 121, 713, 715, 20, 716, 717, 719].filterMap (fun i => lw_tbl[i]?) := by decide +kernel
set_option maxRecDepth 20000 in
theorem wl_wsL_law_r37 : wsL_law_r37 = [21, 720, 721, 722, 723, 92, 724, 1388, 725, 726, 727, 728, 729, 1389, 731, 732, 733, 734, 735, 736, 737, 738, 739, 740].filterMap (fun i => lw_tbl[i]?) := by decide +kernel
set_option maxRecDepth 20000 in
theorem wl_wsL_law_r38 : wsL_law_r38 = [93, 741, 742, 743, 744, 745, 747, 748, 94, 749, 750, 751, 95, 752, 753, 754, 755, 756, 757, 758, 759, 760, 761, 762].filterMap (fun i => lw_tbl[i]?) := by decide +kernel
set_option maxRecDepth 20000 in
theorem wl_wsL_law_r39 : wsL_law_r39 = [763, 765, 767, 769, 771, 22, 772, 130, 773, 775, 23, 776, 779, 781, 24, 782, 786, 787, 788, 790, 25, 791, 799, 801].filterMap (fun i => lw_tbl[i]?) := by decide +kernel
set_option maxRecDepth 20000 in
theorem wl_wsL_law_r40 : wsL_law_r40 = [26, 802, 805, 1262, 1263, 1264, 1265, 898, 900, 896, 897, 1266, 1268, 68, 1269, 899, 1270, 1272, 69, 1273, 1274, 1276, 70, 1277].filterMap (fun i => lw_tbl[i]?) := by decide +kernel
set_option maxRecDepth 20000 in
theorem wl_wsL_law_r41 : wsL_law_r41 = [1278, 1280, 71, 1281, 1283, 1285, 72, 1286, 1287, 1288, 1296, 1298, 73, 1299, 1300, 1302, 74, 1303, 1304, 1306, 75, 1307, 1309, 1311].filterMap (fun i => lw_tbl[i]?) := by decide +kernel
set_option maxRecDepth 20000 in
theorem wl_wsL_law_r42 : wsL_law_r42 = [76, 1312, 1313, 1315, 77, 1316, 1319, 1321, 78, 1322, 1327, 1329, 79, 1330, 807, 808, 809, 810, 159, 1331, 1332, 1333, 1334, 811].filterMap (fun i => lw_tbl[i]?) := by decide +kernel
set_option maxRecDepth 20000 in
theorem wl_wsL_law_r43 : wsL_law_r43 = [812, 813, 814, 815, 817, 816, 1335, 1336, 1337, 1338, 1339, 1343, 1340, 1341, 1342, 818, 819, 820, 821, 822, 823, 824, 825, 826].filterMap (fun i => lw_tbl[i]?) := by decide +kernel
set_option maxRecDepth 20000 in
theorem wl_wsL_law_r44 : wsL_law_r44 = [827, 828, 276, 278, 829, 1344, 1345, 1346, 1347, 1348, 1349, 1350, 830, 831, 832, 833, 279, 834, 835, 836, 837, 838, 839, 840].filterMap (fun i => lw_tbl[i]?) := by decide +kernel
set_option maxRecDepth 20000 in
theorem wl_wsL_law_r45 : wsL_law_r45 = [841, 1351, 1352, 1353, 1354, 842, 843, 844, 845, 277, 275, 850, 846, 847, 848, 849, 1355, 1356, 1357, 1358, 851, 852, 853, 854].filterMap (fun i => lw_tbl[i]?) := by decide +kernel
set_option maxRecDepth 20000 in
theorem wl_wsL_law_r46 : wsL_law_r46 = [855, 1359, 1360, 1361, 1362, 856, 857, 858, 859, 1363, 1364, 1365, 1366, 860, 861, 862, 863, 295, 1367, 1368, 1369, 1370, 890, 864].filterMap (fun i => lw_tbl[i]?) := by decide +kernel
set_option maxRecDepth 20000 in
theorem wl_wsL_law_r47 : wsL_law_r47 = [865, 866, 867, 1371, 1372, 1373, 1374, 868, 869, 870, 871, 1375, 1376, 1377, 1378, 872, 873, 874, 875, 249, 1379, 1380, 1381, 1382].filterMap (fun i => lw_tbl[i]?) := by decide +kernel
set_option maxRecDepth 20000 in
theorem wl_wsL_law_r48 : wsL_law_r48 = [876, 877, 878, 879, 1383, 1384, 1385, 1386, 1387].filterMap (fun i => lw_tbl[i]?) := by decide +kernel
set_option maxRecDepth 20000 in
theorem wl_wsX60 : wsX60 = [296, 298, 300, 302, 304, 306, 308, 310, 312].filterMap (fun i => lw_tbl[i]?) := by decide +kernel
set_option maxRecDepth 20000 in
theorem wl_wsX70 : wsX70 = [904, 906, 908, 910, 912, 914, 916, 918, 920, 922, 924, 926, 928, 930, 932, 934, 936, 938].filterMap (fun i => lw_tbl[i]?) := by decide +kernel
set_option maxRecDepth 20000 in
theorem wl_wsX00 : wsX00 = [160, 162, 164, 166, 168, 170, 172, 174, 176, 178, 180, 182, 184, 186, 188].filterMap (fun i => lw_tbl[i]?) := by decide +kernel
set_option maxRecDepth 20000 in
theorem wl_wsX50 : wsX50 = [199].filterMap (fun i => lw_tbl[i]?) := by decide +kernel
set_option maxRecDepth 20000 in
theorem wl_wsX10 : wsX10 = [220, 222, 224, 226, 228, 230, 232, 234, 236, 238].filterMap (fun i => lw_tbl[i]?) := by decide +kernel
set_option maxRecDepth 20000 in
theorem wl_wsX40 : wsX40 = [254, 256, 258, 260, 262, 264].filterMap (fun i => lw_tbl[i]?) := by decide +kernel
set_option maxRecDepth 20000 in
theorem wl_wsX30 : wsX30 = [280, 282, 284].filterMap (fun i => lw_tbl[i]?) := by decide +kernel
set_option maxRecDepth 20000 in
theorem wsL_law_in : ∀ w ∈ wsL_law, w ∈ lw_tbl := wl_app (wl_app (wl_app (wl_app (wl_app (wl_app (wl_app (wl_app (wl_app (wl_in wl_wsL_law_r1) (wl_app (wl_in wl_wsL_law_r2) (wl_app (wl_in wl_wsL_law_r3) (wl_app (wl_in wl_wsL_law_r4) (wl_app (wl_in wl_wsL_law_r5) (wl_app (wl_in wl_wsL_law_r6) (wl_app (wl_in wl_wsL_law_r7) (wl_app (wl_in wl_wsL_law_r8) (wl_app (wl_in wl_wsL_law_r9) (wl_app (wl_in wl_wsL_law_r10) (wl_app (wl_in wl_wsL_law_r11) (wl_app (wl_in wl_wsL_law_r12) (wl_app (wl_in wl_wsL_law_r13) (wl_app (wl_in wl_wsL_law_r14) (wl_app (wl_in wl_wsL_law_r15) (wl_app (wl_in wl_wsL_law_r16) (wl_app (wl_in wl_wsL_law_r17) (wl_app (wl_in wl_wsL_law_r18) (wl_app (wl_in wl_wsL_law_r19) (wl_app (wl_in wl_wsL_law_r20) (wl_app (wl_in wl_wsL_law_r21) (wl_app (wl_in wl_wsL_law_r22) (wl_app (wl_in wl_wsL_law_r23) (wl_app (wl_in wl_wsL_law_r24) (wl_app (wl_in wl_wsL_law_r25) (wl_app (wl_in wl_wsL_law_r26) (wl_app (wl_in wl_wsL_law_r27) (wl_app (wl_in wl_wsL_law_r28) (wl_app (wl_in wl_wsL_law_r29) (wl_app (wl_in wl_wsL_law_r30) (wl_app (wl_in wl_wsL_law_r31) (wl_app (wl_in wl_wsL_law_r32) (wl_app (wl_in wl_wsL_law_r33) (wl_app (wl_in wl_wsL_law_r34) (wl_app (wl_in wl_wsL_law_r35) (wl_app (wl_in wl_wsL_law_r36) (wl_app (wl_in wl_wsL_law_r37) (wl_app (wl_in wl_wsL_law_r38) (wl_app (wl_in wl_wsL_law_r39) (wl_app (wl_in wl_wsL_law_r40) (wl_app (wl_in wl_wsL_law_r41) (wl_app (wl_in wl_wsL_law_r42) (wl_app (wl_in wl_wsL_law_r43) (wl_app (wl_in wl_wsL_law_r44) (wl_app (wl_in wl_wsL_law_r45) (wl_app (wl_in wl_wsL_law_r46) (wl_app (wl_in wl_wsL_law_r47) (wl_in wl_wsL_law_r48)))))))))))))))))))))))))))))))))))))))))))))))) (wl_in wl_wsX60)) (wl_in wl_wsX70)) (wl_in wl_wsX00)) (wl_in wl_wsX50)) (wl_in wl_wsX10)) (wl_in wl_wsX40)) (wl_in wl_wsX30)) (fun _ h => absurd h List.not_mem_nil)
theorem inlX0 : ∀ w ∈ wsX00, w ∈ wsL_law := fun _ h => List.mem_append_left _ (List.mem_append_left _ (List.mem_append_left _ (List.mem_append_left _ (List.mem_append_left _ (List.mem_append_right _ h)))))
theorem inlX1 : ∀ w ∈ wsX10, w ∈ wsL_law := fun _ h => List.mem_append_left _ (List.mem_append_left _ (List.mem_append_left _ (List.mem_append_right _ h)))
theorem inlX3 : ∀ w ∈ wsX30, w ∈ wsL_law := fun _ h => List.mem_append_left _ (List.mem_append_right _ h)
theorem inlX4 : ∀ w ∈ wsX40, w ∈ wsL_law := fun _ h => List.mem_append_left _ (List.mem_append_left _ (List.mem_append_right _ h))
theorem inlX5 : ∀ w ∈ wsX50, w ∈ wsL_law := fun _ h => List.mem_append_left _ (List.mem_append_left _ (List.mem_append_left _ (List.mem_append_left _ (List.mem_append_right _ h))))
theorem inlX6 : ∀ w ∈ wsX60, w ∈ wsL_law := fun _ h => List.mem_append_left _ (List.mem_append_left _ (List.mem_append_left _ (List.mem_append_left _ (List.mem_append_left _ (List.mem_append_left _ (List.mem_append_left _ (List.mem_append_right _ h)))))))
theorem inlX7 : ∀ w ∈ wsX70, w ∈ wsL_law := fun _ h => List.mem_append_left _ (List.mem_append_left _ (List.mem_append_left _ (List.mem_append_left _ (List.mem_append_left _ (List.mem_append_left _ (List.mem_append_right _ h))))))
abbrev vwCl : List vw_C := [(RX0, TX0, 15), (RX1, TX1, 10), (RX3, TX3, 3), (RX4, TX4, 6), (RX5, TX5, 1), (RX6, TX6, 9), (RX7, TX7, 18)]
