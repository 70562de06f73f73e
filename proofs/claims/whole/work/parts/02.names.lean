def RX0 : String := "EvenWheel$Emptying"
def TX0 : u_T := fun k => match k with
  | 0 => ("EvenWheel$Emptying", "wheel", "LEvenWheel$Wheel;", true)
  | 1 => ("EvenWheel$Emptying", "loaded", "LEvenWheel$Row;", true)
  | 2 => ("EvenWheel$Emptying", "order", "LEvenWheel$Row;", true)
  | 3 => ("EvenWheel$Emptying", "best", "LEvenWheel$Row;", true)
  | 4 => ("EvenWheel$Emptying", "leans", "[[I", true)
  | 5 => ("EvenWheel$Emptying", "rests", "[I", true)
  | 6 => ("EvenWheel$Emptying", "costs", "[I", true)
  | 7 => ("EvenWheel$Emptying", "steps", "[I", true)
  | 8 => ("EvenWheel$Emptying", "bestCost", "I", false)
  | 9 => ("EvenWheel$Emptying", "bestSteps", "I", false)
  | _ => ("EvenWheel$Emptying", "times", "I", false)
def tyX0 : Nat → FieldType := fun k => match k with
  | 0 => .object "EvenWheel$Wheel"
  | 1 => .object "EvenWheel$Row"
  | 2 => .object "EvenWheel$Row"
  | 3 => .object "EvenWheel$Row"
  | 4 => .array (.array .int)
  | 5 => .array .int
  | 6 => .array .int
  | 7 => .array .int
  | 8 => .int
  | 9 => .int
  | _ => .int
abbrev wsX00 : List Cond := u_ws RX0 TX0 11
theorem nmX0 : ∀ a, a < 11 → ∀ b, b < 11 → a ≠ b → (TX0 a).2.1 ≠ (TX0 b).2.1 := by decide +kernel
theorem tyX0_ok : ∀ k, k < 11 → parseFieldDescriptor (TX0 k).2.2.1 = some (tyX0 k) := by decide +kernel
def RX1 : String := "EvenWheel$Notes"
def TX1 : u_T := fun k => match k with
  | 0 => ("EvenWheel$Notes", "wheel", "LEvenWheel$Wheel;", true)
  | 1 => ("EvenWheel$Notes", "sorts", "LEvenWheel$Row;", true)
  | 2 => ("EvenWheel$Notes", "numbers", "LEvenWheel$Row;", true)
  | 3 => ("EvenWheel$Notes", "least", "I", false)
  | _ => ("EvenWheel$Notes", "most", "I", false)
def tyX1 : Nat → FieldType := fun k => match k with
  | 0 => .object "EvenWheel$Wheel"
  | 1 => .object "EvenWheel$Row"
  | 2 => .object "EvenWheel$Row"
  | 3 => .int
  | _ => .int
abbrev wsX10 : List Cond := u_ws RX1 TX1 5
theorem nmX1 : ∀ a, a < 5 → ∀ b, b < 5 → a ≠ b → (TX1 a).2.1 ≠ (TX1 b).2.1 := by decide +kernel
theorem tyX1_ok : ∀ k, k < 5 → parseFieldDescriptor (TX1 k).2.2.1 = some (tyX1 k) := by decide +kernel
def RX2 : String := "EvenWheel$Parties"
def TX2 : u_T := fun k => match k with
  | 0 => ("EvenWheel$Parties", "persons", "LEvenWheel$Row;", true)
  | 1 => ("EvenWheel$Parties", "weights", "LEvenWheel$Row;", true)
  | 2 => ("EvenWheel$Parties", "wishes", "LEvenWheel$Row;", true)
  | 3 => ("EvenWheel$Parties", "places", "LEvenWheel$Row;", true)
  | 4 => ("EvenWheel$Parties", "seen", "LEvenWheel$Row;", true)
  | _ => ("EvenWheel$Parties", "passed", "LEvenWheel$Row;", true)
def tyX2 : Nat → FieldType := fun k => match k with
  | 0 => .object "EvenWheel$Row"
  | 1 => .object "EvenWheel$Row"
  | 2 => .object "EvenWheel$Row"
  | 3 => .object "EvenWheel$Row"
  | 4 => .object "EvenWheel$Row"
  | _ => .object "EvenWheel$Row"
abbrev wsX20 : List Cond := u_ws RX2 TX2 6
theorem nmX2 : ∀ a, a < 6 → ∀ b, b < 6 → a ≠ b → (TX2 a).2.1 ≠ (TX2 b).2.1 := by decide +kernel
theorem tyX2_ok : ∀ k, k < 6 → parseFieldDescriptor (TX2 k).2.2.1 = some (tyX2 k) := by decide +kernel
def RX3 : String := "EvenWheel$Readings"
def TX3 : u_T := fun k => match k with
  | 0 => ("EvenWheel$Readings", "wheel", "LEvenWheel$Wheel;", true)
  | 1 => ("EvenWheel$Readings", "guessedLows", "[I", true)
  | 2 => ("EvenWheel$Readings", "guessedHighs", "[I", true)
  | 3 => ("EvenWheel$Readings", "lows", "[I", true)
  | 4 => ("EvenWheel$Readings", "highs", "[I", true)
  | 5 => ("EvenWheel$Readings", "turns", "LEvenWheel$Row;", true)
  | 6 => ("EvenWheel$Readings", "leans", "LEvenWheel$Row;", true)
  | _ => ("EvenWheel$Readings", "misses", "LEvenWheel$Row;", true)
def tyX3 : Nat → FieldType := fun k => match k with
  | 0 => .object "EvenWheel$Wheel"
  | 1 => .array .int
  | 2 => .array .int
  | 3 => .array .int
  | 4 => .array .int
  | 5 => .object "EvenWheel$Row"
  | 6 => .object "EvenWheel$Row"
  | _ => .object "EvenWheel$Row"
abbrev wsX30 : List Cond := u_ws RX3 TX3 8
theorem nmX3 : ∀ a, a < 8 → ∀ b, b < 8 → a ≠ b → (TX3 a).2.1 ≠ (TX3 b).2.1 := by decide +kernel
theorem tyX3_ok : ∀ k, k < 8 → parseFieldDescriptor (TX3 k).2.2.1 = some (tyX3 k) := by decide +kernel
def RX4 : String := "EvenWheel$Ride"
def TX4 : u_T := fun k => match k with
  | 0 => ("EvenWheel$Ride", "wheel", "LEvenWheel$Wheel;", true)
  | 1 => ("EvenWheel$Ride", "rules", "LEvenWheel$Rules;", true)
  | 2 => ("EvenWheel$Ride", "warmth", "I", false)
  | 3 => ("EvenWheel$Ride", "steps", "I", false)
  | _ => ("EvenWheel$Ride", "driven", "Z", false)
def tyX4 : Nat → FieldType := fun k => match k with
  | 0 => .object "EvenWheel$Wheel"
  | 1 => .object "EvenWheel$Rules"
  | 2 => .int
  | 3 => .int
  | _ => .boolean
abbrev wsX40 : List Cond := u_ws RX4 TX4 5
theorem nmX4 : ∀ a, a < 5 → ∀ b, b < 5 → a ≠ b → (TX4 a).2.1 ≠ (TX4 b).2.1 := by decide +kernel
theorem tyX4_ok : ∀ k, k < 5 → parseFieldDescriptor (TX4 k).2.2.1 = some (tyX4 k) := by decide +kernel
def RX5 : String := "EvenWheel$Riders"
def TX5 : u_T := fun k => match k with
  | 0 => ("EvenWheel$Riders", "wheel", "LEvenWheel$Wheel;", true)
  | 1 => ("EvenWheel$Riders", "rules", "LEvenWheel$Rules;", true)
  | 2 => ("EvenWheel$Riders", "parties", "LEvenWheel$Parties;", true)
  | 3 => ("EvenWheel$Riders", "line", "LEvenWheel$Row;", true)
  | 4 => ("EvenWheel$Riders", "cabins", "[LEvenWheel$Row;", true)
  | _ => ("EvenWheel$Riders", "nobody", "LEvenWheel$Row;", true)
def tyX5 : Nat → FieldType := fun k => match k with
  | 0 => .object "EvenWheel$Wheel"
  | 1 => .object "EvenWheel$Rules"
  | 2 => .object "EvenWheel$Parties"
  | 3 => .object "EvenWheel$Row"
  | 4 => .array (.object "EvenWheel$Row")
  | _ => .object "EvenWheel$Row"
abbrev wsX50 : List Cond := u_ws RX5 TX5 6
theorem nmX5 : ∀ a, a < 6 → ∀ b, b < 6 → a ≠ b → (TX5 a).2.1 ≠ (TX5 b).2.1 := by decide +kernel
theorem tyX5_ok : ∀ k, k < 6 → parseFieldDescriptor (TX5 k).2.2.1 = some (tyX5 k) := by decide +kernel
def RX6 : String := "EvenWheel$Rolling"
def TX6 : u_T := fun k => match k with
  | 0 => ("EvenWheel$Rolling", "wheel", "LEvenWheel$Wheel;", true)
  | 1 => ("EvenWheel$Rolling", "riders", "LEvenWheel$Riders;", true)
  | 2 => ("EvenWheel$Rolling", "leans", "[I", true)
  | 3 => ("EvenWheel$Rolling", "emptied", "LEvenWheel$Row;", true)
  | _ => ("EvenWheel$Rolling", "turn", "I", false)
def tyX6 : Nat → FieldType := fun k => match k with
  | 0 => .object "EvenWheel$Wheel"
  | 1 => .object "EvenWheel$Riders"
  | 2 => .array .int
  | 3 => .object "EvenWheel$Row"
  | _ => .int
abbrev wsX60 : List Cond := u_ws RX6 TX6 5
theorem nmX6 : ∀ a, a < 5 → ∀ b, b < 5 → a ≠ b → (TX6 a).2.1 ≠ (TX6 b).2.1 := by decide +kernel
theorem tyX6_ok : ∀ k, k < 5 → parseFieldDescriptor (TX6 k).2.2.1 = some (tyX6 k) := by decide +kernel
def RX7 : String := "EvenWheel$Row"
def TX7 : u_T := fun k => match k with
  | 0 => ("EvenWheel$Row", "items", "[I", true)
  | _ => ("EvenWheel$Row", "size", "I", false)
def tyX7 : Nat → FieldType := fun k => match k with
  | 0 => .array .int
  | _ => .int
abbrev wsX70 : List Cond := u_ws RX7 TX7 2
theorem nmX7 : ∀ a, a < 2 → ∀ b, b < 2 → a ≠ b → (TX7 a).2.1 ≠ (TX7 b).2.1 := by decide +kernel
theorem tyX7_ok : ∀ k, k < 2 → parseFieldDescriptor (TX7 k).2.2.1 = some (tyX7 k) := by decide +kernel
def RX8 : String := "EvenWheel$Rules"
def TX8 : u_T := fun k => match k with
  | _ => ("EvenWheel$Rules", "values", "[I", true)
def tyX8 : Nat → FieldType := fun k => match k with
  | _ => .array .int
abbrev wsX80 : List Cond := u_ws RX8 TX8 1
theorem nmX8 : ∀ a, a < 1 → ∀ b, b < 1 → a ≠ b → (TX8 a).2.1 ≠ (TX8 b).2.1 := by decide +kernel
theorem tyX8_ok : ∀ k, k < 1 → parseFieldDescriptor (TX8 k).2.2.1 = some (tyX8 k) := by decide +kernel
def RX9 : String := "EvenWheel$Wheel"
def TX9 : u_T := fun k => match k with
  | 0 => ("EvenWheel$Wheel", "arms", "[I", true)
  | 1 => ("EvenWheel$Wheel", "loads", "[I", true)
  | 2 => ("EvenWheel$Wheel", "leans", "[I", true)
  | 3 => ("EvenWheel$Wheel", "cabins", "I", false)
  | _ => ("EvenWheel$Wheel", "turn", "I", false)
def tyX9 : Nat → FieldType := fun k => match k with
  | 0 => .array .int
  | 1 => .array .int
  | 2 => .array .int
  | 3 => .int
  | _ => .int
abbrev wsX90 : List Cond := u_ws RX9 TX9 5
theorem nmX9 : ∀ a, a < 5 → ∀ b, b < 5 → a ≠ b → (TX9 a).2.1 ≠ (TX9 b).2.1 := by decide +kernel
theorem tyX9_ok : ∀ k, k < 5 → parseFieldDescriptor (TX9 k).2.2.1 = some (tyX9 k) := by decide +kernel
def RX10 : String := "EvenWheel"
def TX10 : u_T := fun k => match k with
  | 0 => ("EvenWheel", "rules", "LEvenWheel$Rules;", true)
  | 1 => ("EvenWheel", "wheel", "LEvenWheel$Wheel;", true)
  | 2 => ("EvenWheel", "ride", "LEvenWheel$Ride;", true)
  | 3 => ("EvenWheel", "riders", "LEvenWheel$Riders;", true)
  | 4 => ("EvenWheel", "emptying", "LEvenWheel$Emptying;", true)
  | 5 => ("EvenWheel", "rolling", "LEvenWheel$Rolling;", true)
  | 6 => ("EvenWheel", "notes", "LEvenWheel$Notes;", true)
  | _ => ("EvenWheel", "readings", "LEvenWheel$Readings;", true)
def tyX10 : Nat → FieldType := fun k => match k with
  | 0 => .object "EvenWheel$Rules"
  | 1 => .object "EvenWheel$Wheel"
  | 2 => .object "EvenWheel$Ride"
  | 3 => .object "EvenWheel$Riders"
  | 4 => .object "EvenWheel$Emptying"
  | 5 => .object "EvenWheel$Rolling"
  | 6 => .object "EvenWheel$Notes"
  | _ => .object "EvenWheel$Readings"
abbrev wsX100 : List Cond := u_ws RX10 TX10 8
theorem nmX10 : ∀ a, a < 8 → ∀ b, b < 8 → a ≠ b → (TX10 a).2.1 ≠ (TX10 b).2.1 := by decide +kernel
theorem tyX10_ok : ∀ k, k < 8 → parseFieldDescriptor (TX10 k).2.2.1 = some (tyX10 k) := by decide +kernel
def RX11 : String := "EvenWheelModel"
def TX11 : u_T := fun k => match k with
  | 0 => ("EvenWheelModel", "n", "I", false)
  | 1 => ("EvenWheelModel", "turn", "I", false)
  | 2 => ("EvenWheelModel", "warmth", "I", false)
  | 3 => ("EvenWheelModel", "steps", "I", false)
  | 4 => ("EvenWheelModel", "bound", "I", false)
  | 5 => ("EvenWheelModel", "hot", "I", false)
  | 6 => ("EvenWheelModel", "cooling", "I", false)
  | 7 => ("EvenWheelModel", "patience", "I", false)
  | 8 => ("EvenWheelModel", "hasDrive", "Z", false)
  | 9 => ("EvenWheelModel", "inside", "[I", true)
  | 10 => ("EvenWheelModel", "insides", "[I", true)
  | 11 => ("EvenWheelModel", "loads", "[I", true)
  | 12 => ("EvenWheelModel", "come", "I", false)
  | 13 => ("EvenWheelModel", "persons", "[I", true)
  | 14 => ("EvenWheelModel", "weighs", "[I", true)
  | 15 => ("EvenWheelModel", "wishes", "[I", true)
  | 16 => ("EvenWheelModel", "where", "[I", true)
  | 17 => ("EvenWheelModel", "seen", "[Z", true)
  | 18 => ("EvenWheelModel", "passed", "[I", true)
  | 19 => ("EvenWheelModel", "lines", "I", false)
  | 20 => ("EvenWheelModel", "line", "[I", true)
  | 21 => ("EvenWheelModel", "ordersDone", "I", false)
  | 22 => ("EvenWheelModel", "kept", "[I", true)
  | 23 => ("EvenWheelModel", "loaded", "[I", true)
  | 24 => ("EvenWheelModel", "loadedMany", "I", false)
  | 25 => ("EvenWheelModel", "trial", "[I", true)
  | 26 => ("EvenWheelModel", "best", "[I", true)
  | 27 => ("EvenWheelModel", "cost", "I", false)
  | 28 => ("EvenWheelModel", "way", "I", false)
  | 29 => ("EvenWheelModel", "bestCost", "I", false)
  | 30 => ("EvenWheelModel", "bestWay", "I", false)
  | 31 => ("EvenWheelModel", "notes", "I", false)
  | 32 => ("EvenWheelModel", "noteSort", "[I", true)
  | 33 => ("EvenWheelModel", "noteMany", "[I", true)
  | 34 => ("EvenWheelModel", "may", "[Z", true)
  | 35 => ("EvenWheelModel", "then", "[Z", true)
  | 36 => ("EvenWheelModel", "guessLow", "[I", true)
  | 37 => ("EvenWheelModel", "guessHigh", "[I", true)
  | 38 => ("EvenWheelModel", "readings", "I", false)
  | 39 => ("EvenWheelModel", "readTurn", "[I", true)
  | 40 => ("EvenWheelModel", "readLean", "[I", true)
  | 41 => ("EvenWheelModel", "readMiss", "[I", true)
  | 42 => ("EvenWheelModel", "low", "[I", true)
  | _ => ("EvenWheelModel", "high", "[I", true)
def tyX11 : Nat → FieldType := fun k => match k with
  | 0 => .int
  | 1 => .int
  | 2 => .int
  | 3 => .int
  | 4 => .int
  | 5 => .int
  | 6 => .int
  | 7 => .int
  | 8 => .boolean
  | 9 => .array .int
  | 10 => .array .int
  | 11 => .array .int
  | 12 => .int
  | 13 => .array .int
  | 14 => .array .int
  | 15 => .array .int
  | 16 => .array .int
  | 17 => .array .boolean
  | 18 => .array .int
  | 19 => .int
  | 20 => .array .int
  | 21 => .int
  | 22 => .array .int
  | 23 => .array .int
  | 24 => .int
  | 25 => .array .int
  | 26 => .array .int
  | 27 => .int
  | 28 => .int
  | 29 => .int
  | 30 => .int
  | 31 => .int
  | 32 => .array .int
  | 33 => .array .int
  | 34 => .array .boolean
  | 35 => .array .boolean
  | 36 => .array .int
  | 37 => .array .int
  | 38 => .int
  | 39 => .array .int
  | 40 => .array .int
  | 41 => .array .int
  | 42 => .array .int
  | _ => .array .int
abbrev wsX110 : List Cond := u_ws RX11 TX11 44
theorem nmX11 : ∀ a, a < 44 → ∀ b, b < 44 → a ≠ b → (TX11 a).2.1 ≠ (TX11 b).2.1 := by decide +kernel
theorem tyX11_ok : ∀ k, k < 44 → parseFieldDescriptor (TX11 k).2.2.1 = some (tyX11 k) := by decide +kernel
def RJ9 : String := "java/lang/Math"
def RJ10 : String := "java/lang/System"
def RJ7 : String := "java/util/Arrays"
def RL : String := "EvenWheelLaw"
abbrev cX0_init : ByteArray := prog_2_method_1_code
def yX0_init : MethodName := ⟨RX0, "<init>", "(LEvenWheel$Wheel;)V"⟩
abbrev cX0_cabinsOfBest : ByteArray := prog_2_method_2_code
def yX0_cabinsOfBest : MethodName := ⟨RX0, "cabinsOfBest", "()I"⟩
abbrev cX0_cabinOfBest : ByteArray := prog_2_method_3_code
def yX0_cabinOfBest : MethodName := ⟨RX0, "cabinOfBest", "(I)I"⟩
abbrev cX0_costOfBest : ByteArray := prog_2_method_4_code
def yX0_costOfBest : MethodName := ⟨RX0, "costOfBest", "()I"⟩
abbrev cX0_stepsOfBest : ByteArray := prog_2_method_5_code
def yX0_stepsOfBest : MethodName := ⟨RX0, "stepsOfBest", "()I"⟩
abbrev cX0_gather : ByteArray := prog_2_method_6_code
def yX0_gather : MethodName := ⟨RX0, "gather", "()Z"⟩
abbrev cX0_weighRests : ByteArray := prog_2_method_7_code
def yX0_weighRests : MethodName := ⟨RX0, "weighRests", "()V"⟩
abbrev cX0_leanOfRest : ByteArray := prog_2_method_8_code
def yX0_leanOfRest : MethodName := ⟨RX0, "leanOfRest", "(II)I"⟩
abbrev cX0_findBest : ByteArray := prog_2_method_9_code
def yX0_findBest : MethodName := ⟨RX0, "findBest", "()Z"⟩
abbrev cX0_isBetter : ByteArray := prog_2_method_10_code
def yX0_isBetter : MethodName := ⟨RX0, "isBetter", "()Z"⟩
abbrev cX0_keepAsBest : ByteArray := prog_2_method_11_code
def yX0_keepAsBest : MethodName := ⟨RX0, "keepAsBest", "()V"⟩
abbrev cX0_wholeCost : ByteArray := prog_2_method_12_code
def yX0_wholeCost : MethodName := ⟨RX0, "wholeCost", "()I"⟩
abbrev cX0_wholeSteps : ByteArray := prog_2_method_13_code
def yX0_wholeSteps : MethodName := ⟨RX0, "wholeSteps", "()I"⟩
abbrev cX0_toNextOrder : ByteArray := prog_2_method_14_code
def yX0_toNextOrder : MethodName := ⟨RX0, "toNextOrder", "()I"⟩
abbrev cX0_measureFrom : ByteArray := prog_2_method_15_code
def yX0_measureFrom : MethodName := ⟨RX0, "measureFrom", "(I)V"⟩
abbrev cX0_turnFor : ByteArray := prog_2_method_16_code
def yX0_turnFor : MethodName := ⟨RX0, "turnFor", "(I)I"⟩
abbrev cX0_takeFigures : ByteArray := prog_2_method_17_code
def yX0_takeFigures : MethodName := ⟨RX0, "takeFigures", "(I)Z"⟩
abbrev cX0_costAsItStands : ByteArray := prog_2_method_18_code
def yX0_costAsItStands : MethodName := ⟨RX0, "costAsItStands", "()I"⟩
abbrev cX1_init : ByteArray := prog_3_method_1_code
def yX1_init : MethodName := ⟨RX1, "<init>", "(LEvenWheel$Wheel;)V"⟩
abbrev cX1_allows : ByteArray := prog_3_method_2_code
def yX1_allows : MethodName := ⟨RX1, "allows", "(II)Z"⟩
abbrev cX1_startAnew : ByteArray := prog_3_method_3_code
def yX1_startAnew : MethodName := ⟨RX1, "startAnew", "()I"⟩
abbrev cX1_write : ByteArray := prog_3_method_4_code
def yX1_write : MethodName := ⟨RX1, "write", "(II)I"⟩
abbrev cX1_mostUpEver : ByteArray := prog_3_method_5_code
def yX1_mostUpEver : MethodName := ⟨RX1, "mostUpEver", "()I"⟩
abbrev cX1_mayBeUp : ByteArray := prog_3_method_6_code
def yX1_mayBeUp : MethodName := ⟨RX1, "mayBeUp", "(I)Z"⟩
abbrev cX1_leastUp : ByteArray := prog_3_method_7_code
def yX1_leastUp : MethodName := ⟨RX1, "leastUp", "()I"⟩
abbrev cX1_mostUp : ByteArray := prog_3_method_8_code
def yX1_mostUp : MethodName := ⟨RX1, "mostUp", "()I"⟩
abbrev cX1_follow : ByteArray := prog_3_method_9_code
def yX1_follow : MethodName := ⟨RX1, "follow", "(I)Z"⟩
abbrev cX1_countBegins : ByteArray := prog_3_method_10_code
def yX1_countBegins : MethodName := ⟨RX1, "countBegins", "()I"⟩
abbrev cX1_turnedBack : ByteArray := prog_3_method_11_code
def yX1_turnedBack : MethodName := ⟨RX1, "turnedBack", "(I)I"⟩
abbrev cX1_pass : ByteArray := prog_3_method_12_code
def yX1_pass : MethodName := ⟨RX1, "pass", "(II)Z"⟩
abbrev cX1_mixInto : ByteArray := prog_3_method_13_code
def yX1_mixInto : MethodName := ⟨RX1, "mixInto", "(J)J"⟩
abbrev cX2_init : ByteArray := prog_4_method_1_code
def yX2_init : MethodName := ⟨RX2, "<init>", "()V"⟩
abbrev cX2_allows : ByteArray := prog_4_method_2_code
def yX2_allows : MethodName := ⟨RX2, "allows", "(IIIII)Z"⟩
abbrev cX2_weighs : ByteArray := prog_4_method_3_code
def yX2_weighs : MethodName := ⟨RX2, "weighs", "(I)Z"⟩
abbrev cX2_together : ByteArray := prog_4_method_4_code
def yX2_together : MethodName := ⟨RX2, "together", "(IIII)I"⟩
abbrev cX2_startAnew : ByteArray := prog_4_method_5_code
def yX2_startAnew : MethodName := ⟨RX2, "startAnew", "()V"⟩
abbrev cX2_count : ByteArray := prog_4_method_6_code
def yX2_count : MethodName := ⟨RX2, "count", "()I"⟩
abbrev cX2_hasRoom : ByteArray := prog_4_method_7_code
def yX2_hasRoom : MethodName := ⟨RX2, "hasRoom", "()Z"⟩
abbrev cX2_add : ByteArray := prog_4_method_8_code
def yX2_add : MethodName := ⟨RX2, "add", "(III)I"⟩
abbrev cX2_personsOf : ByteArray := prog_4_method_9_code
def yX2_personsOf : MethodName := ⟨RX2, "personsOf", "(I)I"⟩
abbrev cX2_personsOfAll : ByteArray := prog_4_method_10_code
def yX2_personsOfAll : MethodName := ⟨RX2, "personsOfAll", "(LEvenWheel$Row;)I"⟩
abbrev cX2_weightOf : ByteArray := prog_4_method_11_code
def yX2_weightOf : MethodName := ⟨RX2, "weightOf", "(I)I"⟩
abbrev cX2_wantsAlone : ByteArray := prog_4_method_12_code
def yX2_wantsAlone : MethodName := ⟨RX2, "wantsAlone", "(I)Z"⟩
abbrev cX2_moveTo : ByteArray := prog_4_method_14_code
def yX2_moveTo : MethodName := ⟨RX2, "moveTo", "(II)V"⟩
abbrev cX2_see : ByteArray := prog_4_method_15_code
def yX2_see : MethodName := ⟨RX2, "see", "(I)V"⟩
abbrev cX2_timesPassed : ByteArray := prog_4_method_16_code
def yX2_timesPassed : MethodName := ⟨RX2, "timesPassed", "(I)I"⟩
abbrev cX2_passOver : ByteArray := prog_4_method_17_code
def yX2_passOver : MethodName := ⟨RX2, "passOver", "(I)V"⟩
abbrev cX2_tell : ByteArray := prog_4_method_18_code
def yX2_tell : MethodName := ⟨RX2, "tell", "(II)I"⟩
abbrev cX2_mixInto : ByteArray := prog_4_method_19_code
def yX2_mixInto : MethodName := ⟨RX2, "mixInto", "(J)J"⟩
abbrev cX3_init : ByteArray := prog_5_method_1_code
def yX3_init : MethodName := ⟨RX3, "<init>", "(LEvenWheel$Wheel;)V"⟩
abbrev cX3_startAnew : ByteArray := prog_5_method_2_code
def yX3_startAnew : MethodName := ⟨RX3, "startAnew", "()V"⟩
abbrev cX3_dropAll : ByteArray := prog_5_method_3_code
def yX3_dropAll : MethodName := ⟨RX3, "dropAll", "()I"⟩
abbrev cX3_holds : ByteArray := prog_5_method_4_code
def yX3_holds : MethodName := ⟨RX3, "holds", "(I)Z"⟩
abbrev cX3_suppose : ByteArray := prog_5_method_5_code
def yX3_suppose : MethodName := ⟨RX3, "suppose", "(III)Z"⟩
abbrev cX3_allows : ByteArray := prog_5_method_6_code
def yX3_allows : MethodName := ⟨RX3, "allows", "(II)Z"⟩
abbrev cX3_write : ByteArray := prog_5_method_7_code
def yX3_write : MethodName := ⟨RX3, "write", "(III)I"⟩
abbrev cX3_lowOf : ByteArray := prog_5_method_8_code
def yX3_lowOf : MethodName := ⟨RX3, "lowOf", "(I)I"⟩
abbrev cX3_highOf : ByteArray := prog_5_method_9_code
def yX3_highOf : MethodName := ⟨RX3, "highOf", "(I)I"⟩
abbrev cX3_narrow : ByteArray := prog_5_method_10_code
def yX3_narrow : MethodName := ⟨RX3, "narrow", "()I"⟩
abbrev cX3_narrowBy : ByteArray := prog_5_method_11_code
def yX3_narrowBy : MethodName := ⟨RX3, "narrowBy", "(I)Z"⟩
abbrev cX3_leastOf : ByteArray := prog_5_method_12_code
def yX3_leastOf : MethodName := ⟨RX3, "leastOf", "(II)I"⟩
abbrev cX3_mostOf : ByteArray := prog_5_method_13_code
def yX3_mostOf : MethodName := ⟨RX3, "mostOf", "(II)I"⟩
abbrev cX3_narrowCabin : ByteArray := prog_5_method_14_code
def yX3_narrowCabin : MethodName := ⟨RX3, "narrowCabin", "(IIII)Z"⟩
abbrev cX3_dividedDown : ByteArray := prog_5_method_15_code
def yX3_dividedDown : MethodName := ⟨RX3, "dividedDown", "(II)I"⟩
abbrev cX3_dividedUp : ByteArray := prog_5_method_16_code
def yX3_dividedUp : MethodName := ⟨RX3, "dividedUp", "(II)I"⟩
abbrev cX3_countAgreeing : ByteArray := prog_5_method_17_code
def yX3_countAgreeing : MethodName := ⟨RX3, "countAgreeing", "()I"⟩
abbrev cX3_mixInto : ByteArray := prog_5_method_18_code
def yX3_mixInto : MethodName := ⟨RX3, "mixInto", "(J)J"⟩
abbrev cX4_init : ByteArray := prog_6_method_1_code
def yX4_init : MethodName := ⟨RX4, "<init>", "(LEvenWheel$Wheel;LEvenWheel$Rules;)V"⟩
abbrev cX4_startAnew : ByteArray := prog_6_method_2_code
def yX4_startAnew : MethodName := ⟨RX4, "startAnew", "()V"⟩
abbrev cX4_warmthNow : ByteArray := prog_6_method_3_code
def yX4_warmthNow : MethodName := ⟨RX4, "warmthNow", "()I"⟩
abbrev cX4_stepsDone : ByteArray := prog_6_method_4_code
def yX4_stepsDone : MethodName := ⟨RX4, "stepsDone", "()I"⟩
abbrev cX4_isDriven : ByteArray := prog_6_method_5_code
def yX4_isDriven : MethodName := ⟨RX4, "isDriven", "()Z"⟩
abbrev cX4_setDriven : ByteArray := prog_6_method_6_code
def yX4_setDriven : MethodName := ⟨RX4, "setDriven", "(Z)Z"⟩
abbrev cX4_leanAfterStep : ByteArray := prog_6_method_7_code
def yX4_leanAfterStep : MethodName := ⟨RX4, "leanAfterStep", "()I"⟩
abbrev cX4_warmthAfterStep : ByteArray := prog_6_method_8_code
def yX4_warmthAfterStep : MethodName := ⟨RX4, "warmthAfterStep", "()I"⟩
abbrev cX4_whyNot : ByteArray := prog_6_method_9_code
def yX4_whyNot : MethodName := ⟨RX4, "whyNot", "()I"⟩
abbrev cX4_goOn : ByteArray := prog_6_method_10_code
def yX4_goOn : MethodName := ⟨RX4, "goOn", "()Z"⟩
abbrev cX5_init : ByteArray := prog_7_method_1_code
def yX5_init : MethodName := ⟨RX5, "<init>", "(LEvenWheel$Wheel;LEvenWheel$Rules;)V"⟩
abbrev cX5_startAnew : ByteArray := prog_7_method_2_code
def yX5_startAnew : MethodName := ⟨RX5, "startAnew", "()V"⟩
abbrev cX5_insideOf : ByteArray := prog_7_method_3_code
def yX5_insideOf : MethodName := ⟨RX5, "insideOf", "(I)LEvenWheel$Row;"⟩
abbrev cX5_partiesCome : ByteArray := prog_7_method_4_code
def yX5_partiesCome : MethodName := ⟨RX5, "partiesCome", "()I"⟩
abbrev cX5_tellParty : ByteArray := prog_7_method_5_code
def yX5_tellParty : MethodName := ⟨RX5, "tellParty", "(II)I"⟩
abbrev cX5_partiesIn : ByteArray := prog_7_method_6_code
def yX5_partiesIn : MethodName := ⟨RX5, "partiesIn", "(I)I"⟩
abbrev cX5_partyIn : ByteArray := prog_7_method_7_code
def yX5_partyIn : MethodName := ⟨RX5, "partyIn", "(II)I"⟩
abbrev cX5_personsIn : ByteArray := prog_7_method_8_code
def yX5_personsIn : MethodName := ⟨RX5, "personsIn", "(I)I"⟩
abbrev cX5_personsUp : ByteArray := prog_7_method_9_code
def yX5_personsUp : MethodName := ⟨RX5, "personsUp", "()I"⟩
abbrev cX5_personsWaiting : ByteArray := prog_7_method_10_code
def yX5_personsWaiting : MethodName := ⟨RX5, "personsWaiting", "()I"⟩
abbrev cX5_isAlone : ByteArray := prog_7_method_11_code
def yX5_isAlone : MethodName := ⟨RX5, "isAlone", "(I)Z"⟩
abbrev cX5_showTop : ByteArray := prog_7_method_12_code
def yX5_showTop : MethodName := ⟨RX5, "showTop", "()V"⟩
abbrev cX5_takesMore : ByteArray := prog_7_method_13_code
def yX5_takesMore : MethodName := ⟨RX5, "takesMore", "()Z"⟩
abbrev cX5_queueUp : ByteArray := prog_7_method_14_code
def yX5_queueUp : MethodName := ⟨RX5, "queueUp", "(III)I"⟩
abbrev cX5_waiting : ByteArray := prog_7_method_15_code
def yX5_waiting : MethodName := ⟨RX5, "waiting", "(I)I"⟩
abbrev cX5_mayBoard : ByteArray := prog_7_method_16_code
def yX5_mayBoard : MethodName := ⟨RX5, "mayBoard", "(I)Z"⟩
abbrev cX5_placeOfNext : ByteArray := prog_7_method_17_code
def yX5_placeOfNext : MethodName := ⟨RX5, "placeOfNext", "()I"⟩
abbrev cX5_boardNext : ByteArray := prog_7_method_18_code
def yX5_boardNext : MethodName := ⟨RX5, "boardNext", "()I"⟩
abbrev cX5_sendAway : ByteArray := prog_7_method_19_code
def yX5_sendAway : MethodName := ⟨RX5, "sendAway", "(I)I"⟩
abbrev cX5_isAtDoor : ByteArray := prog_7_method_20_code
def yX5_isAtDoor : MethodName := ⟨RX5, "isAtDoor", "(I)Z"⟩
abbrev cX5_mayLeave : ByteArray := prog_7_method_21_code
def yX5_mayLeave : MethodName := ⟨RX5, "mayLeave", "(I)Z"⟩
abbrev cX5_getOff : ByteArray := prog_7_method_22_code
def yX5_getOff : MethodName := ⟨RX5, "getOff", "(I)I"⟩
abbrev cX5_vacate : ByteArray := prog_7_method_23_code
def yX5_vacate : MethodName := ⟨RX5, "vacate", "(I)I"⟩
abbrev cX5_mixInto : ByteArray := prog_7_method_24_code
def yX5_mixInto : MethodName := ⟨RX5, "mixInto", "(J)J"⟩
abbrev cX6_init : ByteArray := prog_8_method_1_code
def yX6_init : MethodName := ⟨RX6, "<init>", "(LEvenWheel$Wheel;LEvenWheel$Riders;)V"⟩
abbrev cX6_rollNow : ByteArray := prog_8_method_2_code
def yX6_rollNow : MethodName := ⟨RX6, "rollNow", "()I"⟩
abbrev cX6_letAllOut : ByteArray := prog_8_method_3_code
def yX6_letAllOut : MethodName := ⟨RX6, "letAllOut", "()I"⟩
abbrev cX6_wouldStrand : ByteArray := prog_8_method_4_code
def yX6_wouldStrand : MethodName := ⟨RX6, "wouldStrand", "()I"⟩
abbrev cX6_copyWheel : ByteArray := prog_8_method_5_code
def yX6_copyWheel : MethodName := ⟨RX6, "copyWheel", "()V"⟩
abbrev cX6_leanAt : ByteArray := prog_8_method_6_code
def yX6_leanAt : MethodName := ⟨RX6, "leanAt", "(I)I"⟩
abbrev cX6_toRest : ByteArray := prog_8_method_7_code
def yX6_toRest : MethodName := ⟨RX6, "toRest", "()I"⟩
abbrev cX6_tryLettingOut : ByteArray := prog_8_method_8_code
def yX6_tryLettingOut : MethodName := ⟨RX6, "tryLettingOut", "()V"⟩
abbrev cX6_takeOff : ByteArray := prog_8_method_9_code
def yX6_takeOff : MethodName := ⟨RX6, "takeOff", "(I)V"⟩
abbrev cX7_init : ByteArray := prog_9_method_1_code
def yX7_init : MethodName := ⟨RX7, "<init>", "(I)V"⟩
abbrev cX7_count : ByteArray := prog_9_method_2_code
def yX7_count : MethodName := ⟨RX7, "count", "()I"⟩
abbrev cX7_hasRoom : ByteArray := prog_9_method_3_code
def yX7_hasRoom : MethodName := ⟨RX7, "hasRoom", "()Z"⟩
abbrev cX7_at : ByteArray := prog_9_method_4_code
def yX7_at : MethodName := ⟨RX7, "at", "(I)I"⟩
abbrev cX7_placeOf : ByteArray := prog_9_method_5_code
def yX7_placeOf : MethodName := ⟨RX7, "placeOf", "(I)I"⟩
abbrev cX7_append : ByteArray := prog_9_method_6_code
def yX7_append : MethodName := ⟨RX7, "append", "(I)V"⟩
abbrev cX7_set : ByteArray := prog_9_method_7_code
def yX7_set : MethodName := ⟨RX7, "set", "(II)V"⟩
abbrev cX7_swap : ByteArray := prog_9_method_8_code
def yX7_swap : MethodName := ⟨RX7, "swap", "(II)V"⟩
abbrev cX7_cut : ByteArray := prog_9_method_9_code
def yX7_cut : MethodName := ⟨RX7, "cut", "(I)V"⟩
abbrev cX7_clear : ByteArray := prog_9_method_10_code
def yX7_clear : MethodName := ⟨RX7, "clear", "()V"⟩
abbrev cX7_copyFrom : ByteArray := prog_9_method_11_code
def yX7_copyFrom : MethodName := ⟨RX7, "copyFrom", "(LEvenWheel$Row;)V"⟩
abbrev cX7_mixInto : ByteArray := prog_9_method_12_code
def yX7_mixInto : MethodName := ⟨RX7, "mixInto", "(J)J"⟩
abbrev cX8_init : ByteArray := prog_10_method_1_code
def yX8_init : MethodName := ⟨RX8, "<init>", "()V"⟩
abbrev cX8_names : ByteArray := prog_10_method_2_code
def yX8_names : MethodName := ⟨RX8, "names", "(I)Z"⟩
abbrev cX8_allows : ByteArray := prog_10_method_3_code
def yX8_allows : MethodName := ⟨RX8, "allows", "(II)Z"⟩
abbrev cX8_valueOf : ByteArray := prog_10_method_4_code
def yX8_valueOf : MethodName := ⟨RX8, "valueOf", "(I)I"⟩
abbrev cX8_change : ByteArray := prog_10_method_5_code
def yX8_change : MethodName := ⟨RX8, "change", "(II)I"⟩
abbrev cX8_mixInto : ByteArray := prog_10_method_6_code
def yX8_mixInto : MethodName := ⟨RX8, "mixInto", "(J)J"⟩
abbrev cX9_init : ByteArray := prog_11_method_1_code
def yX9_init : MethodName := ⟨RX9, "<init>", "()V"⟩
abbrev cX9_sixtiethsApart : ByteArray := prog_11_method_2_code
def yX9_sixtiethsApart : MethodName := ⟨RX9, "sixtiethsApart", "(I)I"⟩
abbrev cX9_lay : ByteArray := prog_11_method_3_code
def yX9_lay : MethodName := ⟨RX9, "lay", "(I)V"⟩
abbrev cX9_armAtSixtieth : ByteArray := prog_11_method_4_code
def yX9_armAtSixtieth : MethodName := ⟨RX9, "armAtSixtieth", "(I)I"⟩
abbrev cX9_has : ByteArray := prog_11_method_5_code
def yX9_has : MethodName := ⟨RX9, "has", "(I)Z"⟩
abbrev cX9_count : ByteArray := prog_11_method_6_code
def yX9_count : MethodName := ⟨RX9, "count", "()I"⟩
abbrev cX9_turnNow : ByteArray := prog_11_method_7_code
def yX9_turnNow : MethodName := ⟨RX9, "turnNow", "()I"⟩
abbrev cX9_turnTo : ByteArray := prog_11_method_8_code
def yX9_turnTo : MethodName := ⟨RX9, "turnTo", "(I)V"⟩
abbrev cX9_turnBehind : ByteArray := prog_11_method_9_code
def yX9_turnBehind : MethodName := ⟨RX9, "turnBehind", "(I)I"⟩
abbrev cX9_turnAhead : ByteArray := prog_11_method_10_code
def yX9_turnAhead : MethodName := ⟨RX9, "turnAhead", "(I)I"⟩
abbrev cX9_atDoor : ByteArray := prog_11_method_11_code
def yX9_atDoor : MethodName := ⟨RX9, "atDoor", "()I"⟩
abbrev cX9_atDoorWith : ByteArray := prog_11_method_12_code
def yX9_atDoorWith : MethodName := ⟨RX9, "atDoorWith", "(I)I"⟩
abbrev cX9_turnFor : ByteArray := prog_11_method_13_code
def yX9_turnFor : MethodName := ⟨RX9, "turnFor", "(I)I"⟩
abbrev cX9_atTop : ByteArray := prog_11_method_14_code
def yX9_atTop : MethodName := ⟨RX9, "atTop", "()I"⟩
abbrev cX9_placeOf : ByteArray := prog_11_method_15_code
def yX9_placeOf : MethodName := ⟨RX9, "placeOf", "(I)I"⟩
abbrev cX9_placeWith : ByteArray := prog_11_method_16_code
def yX9_placeWith : MethodName := ⟨RX9, "placeWith", "(II)I"⟩
abbrev cX9_armOf : ByteArray := prog_11_method_17_code
def yX9_armOf : MethodName := ⟨RX9, "armOf", "(II)I"⟩
abbrev cX9_loadOf : ByteArray := prog_11_method_18_code
def yX9_loadOf : MethodName := ⟨RX9, "loadOf", "(I)I"⟩
abbrev cX9_addLoad : ByteArray := prog_11_method_19_code
def yX9_addLoad : MethodName := ⟨RX9, "addLoad", "(II)V"⟩
abbrev cX9_leanAt : ByteArray := prog_11_method_20_code
def yX9_leanAt : MethodName := ⟨RX9, "leanAt", "(I)I"⟩
abbrev cX9_greatestLean : ByteArray := prog_11_method_21_code
def yX9_greatestLean : MethodName := ⟨RX9, "greatestLean", "()I"⟩
abbrev cX9_greatestWith : ByteArray := prog_11_method_22_code
def yX9_greatestWith : MethodName := ⟨RX9, "greatestWith", "(II)I"⟩
abbrev cX9_worstTurn : ByteArray := prog_11_method_23_code
def yX9_worstTurn : MethodName := ⟨RX9, "worstTurn", "()I"⟩
abbrev cX10_init : ByteArray := prog_1_method_1_code
def yX10_init : MethodName := ⟨RX10, "<init>", "()V"⟩
abbrev cX10_build : ByteArray := prog_1_method_2_code
def yX10_build : MethodName := ⟨RX10, "build", "(I)I"⟩
abbrev cX10_arm : ByteArray := prog_1_method_3_code
def yX10_arm : MethodName := ⟨RX10, "arm", "(I)I"⟩
abbrev cX10_told : ByteArray := prog_1_method_4_code
def yX10_told : MethodName := ⟨RX10, "told", "(I)I"⟩
abbrev cX10_rule : ByteArray := prog_1_method_5_code
def yX10_rule : MethodName := ⟨RX10, "rule", "(II)I"⟩
abbrev cX10_drive : ByteArray := prog_1_method_6_code
def yX10_drive : MethodName := ⟨RX10, "drive", "(Z)I"⟩
abbrev cX10_lean : ByteArray := prog_1_method_7_code
def yX10_lean : MethodName := ⟨RX10, "lean", "(I)I"⟩
abbrev cX10_greatest : ByteArray := prog_1_method_8_code
def yX10_greatest : MethodName := ⟨RX10, "greatest", "()I"⟩
abbrev cX10_worst : ByteArray := prog_1_method_9_code
def yX10_worst : MethodName := ⟨RX10, "worst", "()I"⟩
abbrev cX10_load : ByteArray := prog_1_method_10_code
def yX10_load : MethodName := ⟨RX10, "load", "(I)I"⟩
abbrev cX10_cabin : ByteArray := prog_1_method_11_code
def yX10_cabin : MethodName := ⟨RX10, "cabin", "(II)I"⟩
abbrev cX10_inside : ByteArray := prog_1_method_12_code
def yX10_inside : MethodName := ⟨RX10, "inside", "(II)I"⟩
abbrev cX10_step : ByteArray := prog_1_method_13_code
def yX10_step : MethodName := ⟨RX10, "step", "()I"⟩
abbrev cX10_why : ByteArray := prog_1_method_14_code
def yX10_why : MethodName := ⟨RX10, "why", "()I"⟩
abbrev cX10_stop : ByteArray := prog_1_method_15_code
def yX10_stop : MethodName := ⟨RX10, "stop", "(I)I"⟩
abbrev cX10_come : ByteArray := prog_1_method_16_code
def yX10_come : MethodName := ⟨RX10, "come", "(IIIII)I"⟩
abbrev cX10_waits : ByteArray := prog_1_method_17_code
def yX10_waits : MethodName := ⟨RX10, "waits", "(I)I"⟩
abbrev cX10_may : ByteArray := prog_1_method_18_code
def yX10_may : MethodName := ⟨RX10, "may", "(I)I"⟩
abbrev cX10_next : ByteArray := prog_1_method_19_code
def yX10_next : MethodName := ⟨RX10, "next", "()I"⟩
abbrev cX10_fill : ByteArray := prog_1_method_20_code
def yX10_fill : MethodName := ⟨RX10, "fill", "()I"⟩
abbrev cX10_tire : ByteArray := prog_1_method_21_code
def yX10_tire : MethodName := ⟨RX10, "tire", "(I)I"⟩
abbrev cX10_leave : ByteArray := prog_1_method_22_code
def yX10_leave : MethodName := ⟨RX10, "leave", "(I)I"⟩
abbrev cX10_party : ByteArray := prog_1_method_23_code
def yX10_party : MethodName := ⟨RX10, "party", "(II)I"⟩
abbrev cX10_order : ByteArray := prog_1_method_24_code
def yX10_order : MethodName := ⟨RX10, "order", "(I)I"⟩
abbrev cX10_ordered : ByteArray := prog_1_method_25_code
def yX10_ordered : MethodName := ⟨RX10, "ordered", "(I)I"⟩
abbrev cX10_cost : ByteArray := prog_1_method_26_code
def yX10_cost : MethodName := ⟨RX10, "cost", "(I)I"⟩
abbrev cX10_roll : ByteArray := prog_1_method_27_code
def yX10_roll : MethodName := ⟨RX10, "roll", "()I"⟩
abbrev cX10_letOut : ByteArray := prog_1_method_28_code
def yX10_letOut : MethodName := ⟨RX10, "letOut", "()I"⟩
abbrev cX10_stranded : ByteArray := prog_1_method_29_code
def yX10_stranded : MethodName := ⟨RX10, "stranded", "()I"⟩
abbrev cX10_note : ByteArray := prog_1_method_30_code
def yX10_note : MethodName := ⟨RX10, "note", "(II)I"⟩
abbrev cX10_up : ByteArray := prog_1_method_31_code
def yX10_up : MethodName := ⟨RX10, "up", "(II)I"⟩
abbrev cX10_begins : ByteArray := prog_1_method_32_code
def yX10_begins : MethodName := ⟨RX10, "begins", "()I"⟩
abbrev cX10_tear : ByteArray := prog_1_method_33_code
def yX10_tear : MethodName := ⟨RX10, "tear", "()I"⟩
abbrev cX10_guess : ByteArray := prog_1_method_34_code
def yX10_guess : MethodName := ⟨RX10, "guess", "(III)I"⟩
abbrev cX10_read : ByteArray := prog_1_method_35_code
def yX10_read : MethodName := ⟨RX10, "read", "(III)I"⟩
abbrev cX10_forget : ByteArray := prog_1_method_36_code
def yX10_forget : MethodName := ⟨RX10, "forget", "()I"⟩
abbrev cX10_fit : ByteArray := prog_1_method_37_code
def yX10_fit : MethodName := ⟨RX10, "fit", "(II)I"⟩
abbrev cX10_breaks : ByteArray := prog_1_method_38_code
def yX10_breaks : MethodName := ⟨RX10, "breaks", "()I"⟩
abbrev cX10_agree : ByteArray := prog_1_method_39_code
def yX10_agree : MethodName := ⟨RX10, "agree", "()I"⟩
abbrev cX10_digest : ByteArray := prog_1_method_40_code
def yX10_digest : MethodName := ⟨RX10, "digest", "()J"⟩
abbrev cX10_mix : ByteArray := prog_1_method_41_code
def yX10_mix : MethodName := ⟨RX10, "mix", "(JJ)J"⟩
abbrev cX11_init : ByteArray := prog_13_method_1_code
def yX11_init : MethodName := ⟨RX11, "<init>", "()V"⟩
abbrev cX11_in : ByteArray := prog_13_method_2_code
def yX11_in : MethodName := ⟨RX11, "in", "(JJJ)Z"⟩
abbrev cX11_size : ByteArray := prog_13_method_3_code
def yX11_size : MethodName := ⟨RX11, "size", "(I)I"⟩
abbrev cX11_begin : ByteArray := prog_13_method_4_code
def yX11_begin : MethodName := ⟨RX11, "begin", "(I)V"⟩
abbrev cX11_build : ByteArray := prog_13_method_5_code
def yX11_build : MethodName := ⟨RX11, "build", "(I)I"⟩
abbrev cX11_reach : ByteArray := prog_13_method_6_code
def yX11_reach : MethodName := ⟨RX11, "reach", "(I)I"⟩
abbrev cX11_armOf : ByteArray := prog_13_method_7_code
def yX11_armOf : MethodName := ⟨RX11, "armOf", "(I)I"⟩
abbrev cX11_arm : ByteArray := prog_13_method_8_code
def yX11_arm : MethodName := ⟨RX11, "arm", "(I)I"⟩
abbrev cX11_leanOf : ByteArray := prog_13_method_9_code
def yX11_leanOf : MethodName := ⟨RX11, "leanOf", "(I)I"⟩
abbrev cX11_worstOf : ByteArray := prog_13_method_10_code
def yX11_worstOf : MethodName := ⟨RX11, "worstOf", "()I"⟩
abbrev cX11_greatestOf : ByteArray := prog_13_method_11_code
def yX11_greatestOf : MethodName := ⟨RX11, "greatestOf", "()I"⟩
abbrev cX11_atPlace : ByteArray := prog_13_method_12_code
def yX11_atPlace : MethodName := ⟨RX11, "atPlace", "(I)I"⟩
abbrev cX11_personsIn : ByteArray := prog_13_method_13_code
def yX11_personsIn : MethodName := ⟨RX11, "personsIn", "(I)I"⟩
abbrev cX11_upNow : ByteArray := prog_13_method_14_code
def yX11_upNow : MethodName := ⟨RX11, "upNow", "()I"⟩
abbrev cX11_told : ByteArray := prog_13_method_15_code
def yX11_told : MethodName := ⟨RX11, "told", "(I)I"⟩
abbrev cX11_rule : ByteArray := prog_13_method_16_code
def yX11_rule : MethodName := ⟨RX11, "rule", "(II)I"⟩
abbrev cX11_drive : ByteArray := prog_13_method_17_code
def yX11_drive : MethodName := ⟨RX11, "drive", "(Z)I"⟩
abbrev cX11_lean : ByteArray := prog_13_method_18_code
def yX11_lean : MethodName := ⟨RX11, "lean", "(I)I"⟩
abbrev cX11_greatest : ByteArray := prog_13_method_19_code
def yX11_greatest : MethodName := ⟨RX11, "greatest", "()I"⟩
abbrev cX11_worst : ByteArray := prog_13_method_20_code
def yX11_worst : MethodName := ⟨RX11, "worst", "()I"⟩
abbrev cX11_isCabin : ByteArray := prog_13_method_21_code
def yX11_isCabin : MethodName := ⟨RX11, "isCabin", "(I)Z"⟩
abbrev cX11_load : ByteArray := prog_13_method_22_code
def yX11_load : MethodName := ⟨RX11, "load", "(I)I"⟩
abbrev cX11_isAlone : ByteArray := prog_13_method_23_code
def yX11_isAlone : MethodName := ⟨RX11, "isAlone", "(I)Z"⟩
abbrev cX11_cabin : ByteArray := prog_13_method_24_code
def yX11_cabin : MethodName := ⟨RX11, "cabin", "(II)I"⟩
abbrev cX11_inside : ByteArray := prog_13_method_25_code
def yX11_inside : MethodName := ⟨RX11, "inside", "(II)I"⟩
abbrev cX11_whyOf : ByteArray := prog_13_method_26_code
def yX11_whyOf : MethodName := ⟨RX11, "whyOf", "()I"⟩
abbrev cX11_goesOn : ByteArray := prog_13_method_27_code
def yX11_goesOn : MethodName := ⟨RX11, "goesOn", "()Z"⟩
abbrev cX11_step : ByteArray := prog_13_method_28_code
def yX11_step : MethodName := ⟨RX11, "step", "()I"⟩
abbrev cX11_why : ByteArray := prog_13_method_29_code
def yX11_why : MethodName := ⟨RX11, "why", "()I"⟩
abbrev cX11_stop : ByteArray := prog_13_method_30_code
def yX11_stop : MethodName := ⟨RX11, "stop", "(I)I"⟩
abbrev cX11_isWeight : ByteArray := prog_13_method_31_code
def yX11_isWeight : MethodName := ⟨RX11, "isWeight", "(I)Z"⟩
abbrev cX11_come : ByteArray := prog_13_method_32_code
def yX11_come : MethodName := ⟨RX11, "come", "(IIIII)I"⟩
abbrev cX11_waits : ByteArray := prog_13_method_33_code
def yX11_waits : MethodName := ⟨RX11, "waits", "(I)I"⟩
abbrev cX11_mayBoard : ByteArray := prog_13_method_34_code
def yX11_mayBoard : MethodName := ⟨RX11, "mayBoard", "(I)Z"⟩
abbrev cX11_may : ByteArray := prog_13_method_35_code
def yX11_may : MethodName := ⟨RX11, "may", "(I)I"⟩
abbrev cX11_takeOut : ByteArray := prog_13_method_36_code
def yX11_takeOut : MethodName := ⟨RX11, "takeOut", "(I)V"⟩
abbrev cX11_board : ByteArray := prog_13_method_37_code
def yX11_board : MethodName := ⟨RX11, "board", "()I"⟩
abbrev cX11_next : ByteArray := prog_13_method_38_code
def yX11_next : MethodName := ⟨RX11, "next", "()I"⟩
abbrev cX11_fill : ByteArray := prog_13_method_39_code
def yX11_fill : MethodName := ⟨RX11, "fill", "()I"⟩
abbrev cX11_tire : ByteArray := prog_13_method_40_code
def yX11_tire : MethodName := ⟨RX11, "tire", "(I)I"⟩
abbrev cX11_leave : ByteArray := prog_13_method_41_code
def yX11_leave : MethodName := ⟨RX11, "leave", "(I)I"⟩
abbrev cX11_partyOf : ByteArray := prog_13_method_42_code
def yX11_partyOf : MethodName := ⟨RX11, "partyOf", "(II)I"⟩
abbrev cX11_party : ByteArray := prog_13_method_43_code
def yX11_party : MethodName := ⟨RX11, "party", "(II)I"⟩
abbrev cX11_findLoaded : ByteArray := prog_13_method_44_code
def yX11_findLoaded : MethodName := ⟨RX11, "findLoaded", "()V"⟩
abbrev cX11_tryOrder : ByteArray := prog_13_method_45_code
def yX11_tryOrder : MethodName := ⟨RX11, "tryOrder", "()V"⟩
abbrev cX11_layOrder : ByteArray := prog_13_method_46_code
def yX11_layOrder : MethodName := ⟨RX11, "layOrder", "(II)V"⟩
abbrev cX11_findBest : ByteArray := prog_13_method_47_code
def yX11_findBest : MethodName := ⟨RX11, "findBest", "()V"⟩
abbrev cX11_order : ByteArray := prog_13_method_48_code
def yX11_order : MethodName := ⟨RX11, "order", "(I)I"⟩
abbrev cX11_ordered : ByteArray := prog_13_method_49_code
def yX11_ordered : MethodName := ⟨RX11, "ordered", "(I)I"⟩
abbrev cX11_cost : ByteArray := prog_13_method_50_code
def yX11_cost : MethodName := ⟨RX11, "cost", "(I)I"⟩
abbrev cX11_rollOn : ByteArray := prog_13_method_51_code
def yX11_rollOn : MethodName := ⟨RX11, "rollOn", "()I"⟩
abbrev cX11_roll : ByteArray := prog_13_method_52_code
def yX11_roll : MethodName := ⟨RX11, "roll", "()I"⟩
abbrev cX11_letOut : ByteArray := prog_13_method_53_code
def yX11_letOut : MethodName := ⟨RX11, "letOut", "()I"⟩
abbrev cX11_stranded : ByteArray := prog_13_method_54_code
def yX11_stranded : MethodName := ⟨RX11, "stranded", "()I"⟩
abbrev cX11_note : ByteArray := prog_13_method_55_code
def yX11_note : MethodName := ⟨RX11, "note", "(II)I"⟩
abbrev cX11_follow : ByteArray := prog_13_method_56_code
def yX11_follow : MethodName := ⟨RX11, "follow", "(I)V"⟩
abbrev cX11_endOf : ByteArray := prog_13_method_57_code
def yX11_endOf : MethodName := ⟨RX11, "endOf", "(I)I"⟩
abbrev cX11_up : ByteArray := prog_13_method_58_code
def yX11_up : MethodName := ⟨RX11, "up", "(II)I"⟩
abbrev cX11_begins : ByteArray := prog_13_method_59_code
def yX11_begins : MethodName := ⟨RX11, "begins", "()I"⟩
abbrev cX11_tear : ByteArray := prog_13_method_60_code
def yX11_tear : MethodName := ⟨RX11, "tear", "()I"⟩
abbrev cX11_guess : ByteArray := prog_13_method_61_code
def yX11_guess : MethodName := ⟨RX11, "guess", "(III)I"⟩
abbrev cX11_read : ByteArray := prog_13_method_62_code
def yX11_read : MethodName := ⟨RX11, "read", "(III)I"⟩
abbrev cX11_forget : ByteArray := prog_13_method_63_code
def yX11_forget : MethodName := ⟨RX11, "forget", "()I"⟩
abbrev cX11_down : ByteArray := prog_13_method_64_code
def yX11_down : MethodName := ⟨RX11, "down", "(II)I"⟩
abbrev cX11_upward : ByteArray := prog_13_method_65_code
def yX11_upward : MethodName := ⟨RX11, "upward", "(II)I"⟩
abbrev cX11_narrow : ByteArray := prog_13_method_66_code
def yX11_narrow : MethodName := ⟨RX11, "narrow", "(II)Z"⟩
abbrev cX11_narrowAll : ByteArray := prog_13_method_67_code
def yX11_narrowAll : MethodName := ⟨RX11, "narrowAll", "()I"⟩
abbrev cX11_fit : ByteArray := prog_13_method_68_code
def yX11_fit : MethodName := ⟨RX11, "fit", "(II)I"⟩
abbrev cX11_breaks : ByteArray := prog_13_method_69_code
def yX11_breaks : MethodName := ⟨RX11, "breaks", "()I"⟩
abbrev cX11_agree : ByteArray := prog_13_method_70_code
def yX11_agree : MethodName := ⟨RX11, "agree", "()I"⟩
abbrev cX11_digest : ByteArray := prog_13_method_71_code
def yX11_digest : MethodName := ⟨RX11, "digest", "()J"⟩
abbrev cJ9_floorDiv_7cf53 : ByteArray := prog_14_method_47_code
def yJ9_floorDiv_7cf53 : MethodName := ⟨RJ9, "floorDiv", "(II)I"⟩
abbrev cJ9_abs_0f7a4 : ByteArray := prog_14_method_59_code
def yJ9_abs_0f7a4 : MethodName := ⟨RJ9, "abs", "(I)I"⟩
abbrev cJ9_max_7cf53 : ByteArray := prog_14_method_65_code
def yJ9_max_7cf53 : MethodName := ⟨RJ9, "max", "(II)I"⟩
abbrev cJ9_min_7cf53 : ByteArray := prog_14_method_69_code
def yJ9_min_7cf53 : MethodName := ⟨RJ9, "min", "(II)I"⟩
abbrev cJ7_fill_53178 : ByteArray := prog_16_method_103_code
def yJ7_fill_53178 : MethodName := ⟨RJ7, "fill", "([II)V"⟩
abbrev cL_law : ByteArray := code
def yL_law : MethodName := ⟨RL, "law", "([I)Z"⟩
abbrev vwCl : List vw_C := [(RX0, TX0, 11), (RX1, TX1, 5), (RX2, TX2, 6), (RX3, TX3, 8), (RX4, TX4, 5), (RX5, TX5, 6), (RX6, TX6, 5), (RX7, TX7, 2), (RX8, TX8, 1), (RX9, TX9, 5), (RX10, TX10, 8), (RX11, TX11, 44)]
def e_fl : List (Nat × Nat × Nat × Nat × Nat) := [
  (10, 10, 10, 0, 359),
  (10, 19, 10, 1, 360),
  (10, 28, 10, 2, 361),
  (10, 35, 10, 3, 362),
  (10, 44, 10, 4, 363),
  (10, 53, 10, 5, 364),
  (10, 60, 10, 6, 365),
  (10, 67, 10, 7, 366),
  (0, 9, 0, 0, 227),
  (0, 20, 0, 1, 228),
  (0, 24, 0, 2, 229),
  (0, 27, 0, 3, 230),
  (0, 32, 0, 4, 231),
  (0, 35, 0, 5, 232),
  (0, 39, 0, 6, 233),
  (0, 42, 0, 7, 234),
  (0, 53, 0, 8, 235),
  (0, 57, 0, 9, 236),
  (0, 83, 0, 10, 237),
  (1, 9, 1, 0, 293),
  (1, 20, 1, 1, 294),
  (1, 24, 1, 2, 295),
  (1, 47, 1, 3, 296),
  (1, 51, 1, 4, 297),
  (2, 14, 2, 0, 176),
  (2, 20, 2, 1, 177),
  (2, 23, 2, 2, 178),
  (2, 26, 2, 3, 179),
  (2, 29, 2, 4, 180),
  (2, 32, 2, 5, 181),
  (3, 9, 3, 0, 334),
  (3, 15, 3, 1, 335),
  (3, 19, 3, 2, 336),
  (3, 22, 3, 3, 337),
  (3, 25, 3, 4, 338),
  (3, 33, 3, 5, 339),
  (3, 37, 3, 6, 340),
  (3, 40, 3, 7, 341),
  (4, 7, 4, 0, 132),
  (4, 13, 4, 1, 133),
  (4, 17, 4, 4, 136),
  (4, 21, 4, 2, 134),
  (4, 25, 4, 3, 135),
  (5, 9, 5, 0, 198),
  (5, 15, 5, 1, 199),
  (5, 22, 5, 2, 200),
  (5, 31, 5, 3, 201),
  (5, 35, 5, 5, 203),
  (5, 38, 5, 4, 202),
  (6, 9, 6, 0, 269),
  (6, 15, 6, 1, 270),
  (6, 19, 6, 2, 271),
  (6, 28, 6, 3, 272),
  (6, 39, 6, 4, 273),
  (7, 15, 7, 0, 169),
  (7, 21, 7, 1, 170),
  (8, 8, 8, 0, 81),
  (8, 18, 99, 0, 508),
  (8, 21, 99, 0, 510),
  (9, 9, 9, 0, 110),
  (9, 15, 9, 1, 111),
  (9, 18, 9, 2, 112),
  (9, 29, 9, 3, 113),
  (9, 33, 9, 4, 114),
  (9, 51, 99, 0, 108),
  (11, 7, 11, 9, 1201),
  (11, 13, 11, 10, 1202),
  (11, 16, 11, 11, 1203),
  (11, 19, 11, 13, 1205),
  (11, 22, 11, 14, 1206),
  (11, 25, 11, 15, 1207),
  (11, 28, 11, 16, 1208),
  (11, 31, 11, 17, 1209),
  (11, 35, 11, 18, 1210),
  (11, 38, 11, 20, 1212),
  (11, 41, 11, 22, 1214),
  (11, 44, 11, 23, 1215),
  (11, 47, 11, 25, 1217),
  (11, 50, 11, 26, 1218),
  (11, 53, 11, 32, 1224),
  (11, 56, 11, 33, 1225),
  (11, 59, 11, 34, 1226),
  (11, 62, 11, 35, 1227),
  (11, 65, 11, 36, 1228),
  (11, 68, 11, 37, 1229),
  (11, 71, 11, 39, 1231),
  (11, 74, 11, 40, 1232),
  (11, 77, 11, 41, 1233),
  (11, 80, 11, 42, 1234),
  (11, 83, 11, 43, 1235),
  (11, 87, 11, 4, 1196),
  (11, 91, 11, 5, 1197),
  (11, 94, 11, 6, 1198),
  (11, 97, 11, 7, 1199),
  (11, 100, 11, 8, 1200),
  (11, 108, 11, 0, 1192),
  (11, 111, 11, 1, 1193),
  (11, 114, 11, 2, 1194),
  (11, 117, 11, 3, 1195),
  (11, 120, 11, 12, 1204),
  (11, 123, 11, 19, 1211),
  (11, 126, 11, 31, 1223),
  (11, 129, 11, 38, 1230),
  (11, 216, 11, 24, 1216),
  (11, 219, 11, 27, 1219),
  (11, 222, 11, 28, 1220),
  (11, 225, 11, 29, 1221),
  (11, 228, 11, 30, 1222),
  (11, 241, 11, 21, 1213)]
def e_ml : List (Nat × Nat × Nat × Nat × Nat) := [
  (10, 1, 999, 9, 71),
  (10, 9, 122, 2, 76),
  (10, 18, 128, 2, 88),
  (10, 25, 67, 2, 128),
  (10, 34, 77, 2, 150),
  (10, 41, 0, 2, 219),
  (10, 50, 101, 2, 263),
  (10, 59, 18, 2, 287),
  (10, 66, 49, 2, 311),
  (10, 71, 129, 1, 388),
  (10, 75, 130, 0, 389),
  (10, 79, 68, 0, 390),
  (10, 82, 78, 0, 394),
  (10, 83, 20, 0, 404),
  (10, 86, 50, 0, 410),
  (10, 87, 132, 0, 415),
  (10, 91, 144, 0, 419),
  (10, 95, 134, 0, 432),
  (10, 98, 69, 0, 436),
  (10, 101, 138, 0, 440),
  (10, 104, 141, 0, 448),
  (10, 107, 85, 0, 452),
  (10, 110, 86, 0, 477),
  (10, 113, 70, 0, 481),
  (10, 116, 80, 0, 485),
  (10, 119, 71, 0, 493),
  (10, 123, 123, 1, 501),
  (10, 126, 124, 1, 504),
  (10, 130, 126, 0, 512),
  (10, 133, 72, 0, 524),
  (10, 137, 147, 0, 532),
  (10, 141, 148, 0, 541),
  (10, 144, 150, 0, 558),
  (10, 147, 145, 0, 566),
  (10, 150, 84, 0, 574),
  (10, 153, 82, 0, 575),
  (10, 156, 87, 0, 580),
  (10, 159, 142, 0, 589),
  (10, 162, 83, 0, 597),
  (10, 165, 76, 0, 605),
  (10, 168, 75, 0, 638),
  (10, 171, 88, 0, 643),
  (10, 174, 32, 1, 660),
  (10, 179, 89, 0, 666),
  (10, 182, 34, 1, 679),
  (10, 186, 90, 0, 682),
  (10, 190, 91, 0, 701),
  (10, 193, 92, 0, 709),
  (10, 196, 94, 0, 730),
  (10, 199, 95, 0, 767),
  (10, 202, 96, 0, 775),
  (10, 205, 97, 0, 783),
  (10, 208, 98, 0, 788),
  (10, 211, 81, 0, 796),
  (10, 214, 8, 0, 808),
  (10, 217, 1, 0, 881),
  (10, 220, 3, 0, 885),
  (10, 223, 4, 0, 889),
  (10, 226, 2, 0, 897),
  (10, 229, 5, 0, 905),
  (10, 232, 16, 0, 906),
  (10, 235, 17, 0, 912),
  (10, 238, 102, 0, 920),
  (10, 241, 103, 0, 949),
  (10, 244, 104, 0, 978),
  (10, 247, 19, 1, 988),
  (10, 248, 21, 0, 991),
  (10, 251, 23, 0, 1001),
  (10, 254, 26, 0, 1010),
  (10, 257, 24, 0, 1021),
  (10, 260, 25, 0, 1025),
  (10, 263, 27, 0, 1033),
  (10, 266, 53, 0, 1048),
  (10, 270, 54, 1, 1059),
  (10, 271, 55, 0, 1065),
  (10, 273, 51, 0, 1075),
  (10, 276, 58, 0, 1080),
  (10, 279, 56, 0, 1125),
  (10, 282, 57, 0, 1126),
  (10, 285, 65, 0, 1135),
  (10, 290, 133, 0, 1145),
  (10, 293, 191, 1, 1146),
  (10, 297, 154, 0, 1150),
  (10, 300, 127, 0, 1151),
  (10, 304, 100, 0, 1156),
  (10, 305, 30, 0, 1171),
  (10, 306, 66, 0, 1176),
  (0, 3, 999, 9, 222),
  (0, 17, 110, 2, 224),
  (0, 45, 111, 0, 820),
  (0, 49, 113, 0, 826),
  (0, 60, 119, 0, 816),
  (0, 63, 133, 0, 817),
  (0, 66, 145, 0, 818),
  (0, 69, 112, 0, 819),
  (0, 73, 115, 0, 821),
  (0, 76, 6, 0, 822),
  (0, 79, 144, 0, 827),
  (0, 86, 5, 0, 812),
  (0, 89, 14, 0, 828),
  (0, 92, 10, 0, 848),
  (0, 95, 13, 0, 868),
  (0, 98, 9, 0, 877),
  (0, 101, 11, 0, 860),
  (0, 104, 12, 0, 864),
  (0, 107, 120, 0, 852),
  (0, 111, 117, 0, 872),
  (0, 115, 265, 1, 832),
  (0, 120, 134, 0, 833),
  (0, 123, 15, 0, 834),
  (0, 126, 136, 0, 842),
  (0, 129, 7, 0, 843),
  (0, 132, 264, 1, 847),
  (0, 135, 140, 0, 838),
  (0, 136, 114, 0, 910),
  (0, 139, 116, 0, 911),
  (1, 3, 999, 9, 290),
  (1, 17, 110, 2, 292),
  (1, 27, 111, 0, 408),
  (1, 31, 119, 0, 409),
  (1, 34, 112, 0, 995),
  (1, 38, 115, 0, 996),
  (1, 41, 133, 0, 1009),
  (1, 44, 22, 0, 1005),
  (1, 54, 113, 0, 1014),
  (1, 58, 29, 0, 1015),
  (1, 62, 28, 1, 1037),
  (1, 65, 265, 1, 1019),
  (1, 71, 266, 1, 1020),
  (1, 74, 191, 3, 1175),
  (2, 3, 999, 9, 159),
  (2, 11, 110, 2, 162),
  (2, 35, 33, 1, 663),
  (2, 39, 119, 0, 402),
  (2, 42, 111, 0, 472),
  (2, 46, 112, 0, 678),
  (2, 50, 36, 0, 690),
  (2, 51, 115, 0, 691),
  (2, 54, 113, 0, 473),
  (2, 58, 116, 0, 652),
  (2, 62, 47, 0, 1164),
  (2, 66, 191, 3, 1165),
  (3, 3, 999, 9, 314),
  (3, 30, 110, 2, 316),
  (3, 43, 50, 0, 317),
  (3, 46, 51, 0, 321),
  (3, 50, 267, 1, 333),
  (3, 56, 111, 0, 325),
  (3, 59, 119, 0, 329),
  (3, 62, 52, 1, 1052),
  (3, 69, 112, 0, 1069),
  (3, 73, 115, 0, 1070),
  (3, 76, 999, 9, 1084),
  (3, 82, 59, 0, 1087),
  (3, 85, 113, 0, 1091),
  (3, 89, 133, 0, 1092),
  (3, 92, 60, 0, 1093),
  (3, 96, 61, 0, 1106),
  (3, 99, 144, 0, 1097),
  (3, 102, 62, 0, 1110),
  (3, 106, 56, 0, 1098),
  (3, 109, 57, 0, 1102),
  (3, 112, 64, 1, 1114),
  (3, 115, 265, 1, 1123),
  (3, 120, 63, 1, 1117),
  (3, 123, 266, 1, 1124),
  (3, 126, 263, 1, 1120),
  (3, 129, 145, 0, 1139),
  (3, 132, 191, 3, 1180),
  (4, 1, 999, 9, 131),
  (4, 28, 134, 0, 617),
  (4, 34, 136, 0, 618),
  (4, 38, 147, 0, 622),
  (4, 41, 73, 0, 613),
  (4, 46, 125, 0, 624),
  (4, 49, 265, 1, 629),
  (4, 55, 264, 1, 623),
  (4, 58, 74, 0, 625),
  (4, 61, 75, 0, 609),
  (4, 64, 135, 0, 630),
  (5, 3, 999, 9, 153),
  (5, 21, 31, 4, 156),
  (5, 28, 110, 2, 196),
  (5, 42, 35, 0, 398),
  (5, 45, 119, 0, 403),
  (5, 48, 36, 0, 489),
  (5, 52, 47, 0, 800),
  (5, 56, 79, 0, 464),
  (5, 60, 111, 0, 579),
  (5, 61, 113, 0, 584),
  (5, 65, 40, 0, 468),
  (5, 69, 133, 0, 456),
  (5, 72, 84, 0, 460),
  (5, 75, 42, 0, 585),
  (5, 79, 141, 0, 647),
  (5, 82, 44, 0, 648),
  (5, 85, 112, 0, 670),
  (5, 89, 37, 0, 674),
  (5, 90, 38, 0, 686),
  (5, 94, 115, 0, 696),
  (5, 97, 138, 0, 713),
  (5, 100, 39, 0, 714),
  (5, 103, 82, 0, 718),
  (5, 106, 87, 0, 719),
  (5, 109, 41, 0, 720),
  (5, 112, 149, 0, 724),
  (5, 117, 125, 0, 725),
  (5, 120, 92, 0, 738),
  (5, 123, 45, 0, 739),
  (5, 126, 93, 0, 734),
  (5, 129, 46, 0, 743),
  (5, 132, 118, 0, 747),
  (5, 135, 43, 0, 751),
  (5, 139, 146, 0, 755),
  (5, 142, 114, 0, 779),
  (5, 145, 148, 0, 787),
  (5, 148, 145, 0, 973),
  (5, 151, 48, 0, 1160),
  (5, 155, 121, 0, 1166),
  (6, 3, 999, 9, 266),
  (6, 25, 110, 2, 268),
  (6, 32, 105, 0, 924),
  (6, 35, 107, 0, 931),
  (6, 43, 135, 0, 944),
  (6, 48, 108, 0, 953),
  (6, 51, 111, 0, 967),
  (6, 54, 113, 0, 968),
  (6, 58, 99, 0, 969),
  (6, 63, 85, 0, 982),
  (6, 66, 84, 0, 983),
  (6, 69, 134, 0, 928),
  (6, 72, 133, 0, 929),
  (6, 73, 147, 0, 930),
  (6, 76, 106, 0, 935),
  (6, 77, 137, 0, 939),
  (6, 80, 136, 0, 943),
  (6, 83, 119, 0, 957),
  (6, 86, 139, 0, 958),
  (6, 89, 145, 0, 959),
  (6, 92, 114, 0, 960),
  (6, 95, 115, 0, 961),
  (6, 98, 109, 0, 962),
  (6, 101, 144, 0, 966),
  (7, 3, 999, 9, 165),
  (7, 9, 265, 1, 166),
  (7, 25, 112, 0, 695),
  (7, 29, 113, 0, 858),
  (7, 33, 116, 0, 876),
  (7, 37, 119, 0, 856),
  (7, 40, 111, 0, 857),
  (7, 44, 115, 0, 859),
  (7, 48, 191, 3, 1170),
  (8, 1, 999, 9, 79),
  (8, 14, 123, 1, 507),
  (8, 24, 125, 0, 516),
  (8, 28, 191, 3, 1155),
  (9, 3, 999, 9, 91),
  (9, 21, 130, 0, 92),
  (9, 25, 129, 1, 96),
  (9, 36, 267, 1, 99),
  (9, 42, 131, 1, 102),
  (9, 45, 266, 1, 105),
  (9, 54, 132, 0, 427),
  (9, 58, 139, 0, 444),
  (9, 61, 143, 0, 423),
  (9, 64, 144, 0, 549),
  (9, 67, 149, 0, 545),
  (9, 70, 264, 1, 550),
  (9, 73, 265, 1, 553),
  (12, 9, 151, 2, 68),
  (12, 12, 192, 2, 1183),
  (12, 13, 152, 0, 384),
  (12, 17, 196, 0, 1326),
  (12, 18, 153, 0, 411),
  (12, 21, 199, 0, 1330),
  (12, 22, 154, 0, 428),
  (12, 25, 206, 0, 1344),
  (12, 26, 155, 0, 497),
  (12, 30, 207, 0, 1360),
  (12, 31, 156, 0, 520),
  (12, 35, 208, 0, 1370),
  (12, 36, 157, 0, 528),
  (12, 39, 209, 0, 1374),
  (12, 40, 158, 0, 537),
  (12, 44, 210, 0, 1383),
  (12, 45, 159, 0, 554),
  (12, 48, 211, 0, 1398),
  (12, 49, 160, 0, 562),
  (12, 52, 213, 0, 1402),
  (12, 53, 161, 0, 570),
  (12, 56, 215, 0, 1410),
  (12, 57, 162, 0, 593),
  (12, 60, 216, 0, 1418),
  (12, 61, 163, 0, 601),
  (12, 64, 219, 0, 1422),
  (12, 65, 164, 0, 634),
  (12, 68, 220, 0, 1434),
  (12, 69, 165, 0, 639),
  (12, 72, 221, 0, 1438),
  (12, 73, 166, 0, 656),
  (12, 77, 223, 0, 1443),
  (12, 78, 167, 0, 697),
  (12, 81, 224, 0, 1453),
  (12, 82, 168, 0, 705),
  (12, 85, 226, 0, 1457),
  (12, 86, 169, 0, 726),
  (12, 89, 229, 0, 1465),
  (12, 90, 170, 0, 759),
  (12, 93, 230, 0, 1477),
  (12, 94, 171, 0, 763),
  (12, 97, 231, 0, 1481),
  (12, 98, 172, 0, 771),
  (12, 101, 232, 0, 1485),
  (12, 102, 173, 0, 792),
  (12, 105, 234, 0, 1489),
  (12, 106, 174, 0, 804),
  (12, 109, 239, 0, 1497),
  (12, 110, 175, 0, 893),
  (12, 113, 240, 0, 1517),
  (12, 114, 176, 0, 901),
  (12, 117, 241, 0, 1521),
  (12, 118, 177, 0, 916),
  (12, 121, 243, 0, 1525),
  (12, 122, 178, 0, 945),
  (12, 125, 244, 0, 1533),
  (12, 126, 179, 0, 974),
  (12, 129, 245, 0, 1537),
  (12, 130, 180, 0, 984),
  (12, 133, 246, 0, 1541),
  (12, 134, 181, 0, 997),
  (12, 137, 249, 0, 1547),
  (12, 138, 182, 0, 1029),
  (12, 141, 250, 0, 1559),
  (12, 142, 183, 0, 1040),
  (12, 145, 251, 0, 1563),
  (12, 146, 184, 0, 1044),
  (12, 150, 252, 0, 1567),
  (12, 151, 185, 0, 1055),
  (12, 154, 253, 0, 1572),
  (12, 155, 186, 0, 1071),
  (12, 158, 254, 0, 1579),
  (12, 159, 187, 0, 1076),
  (12, 162, 259, 0, 1583),
  (12, 163, 188, 0, 1127),
  (12, 166, 260, 0, 1601),
  (12, 167, 189, 0, 1131),
  (12, 170, 261, 0, 1605),
  (12, 171, 190, 0, 1140),
  (12, 175, 262, 0, 1609),
  (11, 1, 999, 9, 1186),
  (11, 104, 195, 0, 1188),
  (11, 132, 197, 1, 1341),
  (11, 136, 193, 1, 1334),
  (11, 140, 198, 0, 1337),
  (11, 143, 200, 0, 1378),
  (11, 146, 194, 1, 1395),
  (11, 149, 201, 0, 1391),
  (11, 153, 204, 0, 1356),
  (11, 156, 203, 0, 1348),
  (11, 159, 205, 0, 1352),
  (11, 175, 202, 0, 1387),
  (11, 178, 212, 0, 1406),
  (11, 182, 214, 0, 1414),
  (11, 185, 217, 0, 1430),
  (11, 188, 218, 0, 1426),
  (11, 200, 222, 1, 1448),
  (11, 203, 225, 0, 1461),
  (11, 206, 227, 0, 1473),
  (11, 209, 228, 0, 1469),
  (11, 212, 233, 0, 1493),
  (11, 231, 237, 0, 1509),
  (11, 235, 236, 0, 1513),
  (11, 238, 235, 0, 1501),
  (11, 244, 238, 0, 1505),
  (11, 247, 242, 0, 1529),
  (11, 254, 247, 0, 1551),
  (11, 257, 248, 0, 1555),
  (11, 268, 255, 1, 1598),
  (11, 271, 256, 1, 1595),
  (11, 274, 257, 0, 1591),
  (11, 278, 258, 0, 1587)]
def e_kw : List (Nat × Nat × Nat) := [(10, 140, 536), (3, 66, 1062), (3, 67, 1063), (3, 68, 1064), (8, 7, 80), (11, 86, 1187), (11, 174, 1382), (10, 288, 1144), (10, 307, 1149), (11, 162, 1364), (11, 164, 1365), (11, 166, 1366), (11, 168, 1367), (11, 170, 1368), (11, 172, 1369), (11, 192, 1442), (11, 194, 1451), (11, 196, 1452), (11, 198, 1447), (11, 250, 1545), (11, 252, 1546), (11, 260, 1571), (11, 262, 1576), (11, 264, 1577), (11, 266, 1578), (11, 281, 1613), (11, 283, 1614)]
def e_nw : List (Nat × Nat × Nat × Nat × Nat × Nat) := [(10, 7, 8, 74, 75, 52), (10, 16, 9, 86, 87, 53), (10, 23, 4, 126, 127, 56), (10, 32, 5, 148, 149, 57), (10, 39, 0, 217, 218, 60), (10, 48, 6, 261, 262, 61), (10, 57, 1, 285, 286, 62), (10, 64, 3, 309, 310, 63), (0, 15, 7, 223, 161, 59), (1, 15, 7, 291, 161, 59), (2, 9, 7, 160, 161, 59), (3, 28, 7, 315, 161, 59), (5, 19, 2, 154, 155, 58), (5, 26, 7, 195, 161, 59), (6, 23, 7, 267, 161, 59), (12, 7, 10, 66, 67, 51), (12, 10, 11, 1181, 1182, 64)]
def e_cn : List String := [RX0, RX1, RX2, RX3, RX4, RX5, RX6, RX7, RX8, RX9, RX10, RX11, RL, RJ9, RJ7, RJ10]
def e_ocs : List Nat := [0, 0, 0, 0, 0, 0, 0, 0, 0, 0, 0, 0, 0, 0, 0, 0, 0, 0, 1, 1, 1, 1, 1, 1, 1, 1, 1, 1, 1, 1, 1, 2, 2, 2, 2, 2, 2, 2, 2, 2, 2, 2, 2, 2, 2, 2, 2, 2, 2, 3, 3, 3, 3, 3, 3, 3, 3, 3, 3, 3, 3, 3, 3, 3, 3, 3, 3, 4, 4, 4, 4, 4, 4, 4, 4, 4, 4, 5, 5, 5, 5, 5, 5, 5, 5, 5, 5, 5, 5, 5, 5, 5, 5, 5, 5, 5, 5, 5, 5, 5, 5, 6, 6, 6, 6, 6, 6, 6, 6, 6, 7, 7, 7, 7, 7, 7, 7, 7, 7, 7, 7, 7, 8, 8, 8, 8, 8, 8, 9, 9, 9, 9, 9, 9, 9, 9, 9, 9, 9, 9, 9, 9, 9, 9, 9, 9, 9, 9, 9, 9, 9, 10, 10, 10, 10, 10, 10, 10, 10, 10, 10, 10, 10, 10, 10, 10, 10, 10, 10, 10, 10, 10, 10, 10, 10, 10, 10, 10, 10, 10, 10, 10, 10, 10, 10, 10, 10, 10, 10, 10, 10, 10, 11, 11, 11, 11, 11, 11, 11, 11, 11, 11, 11, 11, 11, 11, 11, 11, 11, 11, 11, 11, 11, 11, 11, 11, 11, 11, 11, 11, 11, 11, 11, 11, 11, 11, 11, 11, 11, 11, 11, 11, 11, 11, 11, 11, 11, 11, 11, 11, 11, 11, 11, 11, 11, 11, 11, 11, 11, 11, 11, 11, 11, 11, 11, 11, 11, 11, 11, 11, 11, 11, 11, 13, 13, 13, 13, 14, 12]
def e_sw : List (List (Int32 × Nat) × Nat) := [([(0, 56), (1, 65), (2, 74), (3, 83), (4, 92), (5, 101)], 110), ([(6, 52), (10, 55), (12, 58), (20, 60), (30, 62)], 64), ([(0, 52), (1, 60), (2, 68), (3, 76), (4, 84), (5, 92), (6, 100), (7, 108), (8, 116)], 132), ([(0, 44), (1, 53), (2, 62), (3, 79)], 88), ([(0, 76), (1, 78), (2, 81), (3, 84), (4, 87), (5, 90), (6, 93), (7, 96), (8, 99), (9, 102), (10, 105), (11, 108), (12, 111), (13, 114), (14, 117)], 120), ([(0, 52), (1, 57), (2, 62), (3, 68), (4, 79), (5, 84), (6, 118), (7, 123), (8, 128)], 141), ([(0, 40), (1, 47), (2, 54), (3, 61), (4, 68), (5, 83)], 90), ([(0, 204), (1, 227), (2, 250), (3, 273), (4, 306), (5, 345), (6, 368), (7, 381), (8, 394), (9, 417), (10, 450), (11, 483), (12, 496), (13, 509), (14, 532), (15, 595), (16, 618), (17, 641), (18, 654), (19, 667), (20, 690), (21, 713), (22, 746), (23, 769), (24, 792), (25, 815), (26, 828), (27, 841), (28, 854), (29, 887), (30, 920), (31, 933), (32, 946), (33, 989), (34, 1032), (35, 1045), (36, 1078), (37, 1091), (38, 1104)], 1118)]
abbrev e_MR : Type := MethodName × ByteArray × Nat × Option FieldType × Nat × Nat × Nat × Nat × Nat × Nat × Nat × Nat × Nat × Nat
def e_mt : List e_MR := [
  (yX0_init, cX0_init, 2, none, 3, 66, 74, 2611, 1, 2, 221, 220, 0, 60),
  (yX0_cabinsOfBest, cX0_cabinsOfBest, 1, (some .int), 2, 44, 0, 0, 0, 0, 884, 882, 883, 60),
  (yX0_cabinOfBest, cX0_cabinOfBest, 2, (some .int), 2, 45, 0, 0, 1, 0, 900, 898, 899, 60),
  (yX0_costOfBest, cX0_costOfBest, 1, (some .int), 1, 24, 0, 0, 0, 0, 888, 886, 887, 60),
  (yX0_stepsOfBest, cX0_stepsOfBest, 1, (some .int), 1, 24, 0, 0, 0, 0, 892, 890, 891, 60),
  (yX0_gather, cX0_gather, 2, (some .boolean), 4, 95, 0, 0, 0, 0, 815, 813, 814, 60),
  (yX0_weighRests, cX0_weighRests, 7, none, 3, 69, 0, 0, 0, 0, 825, 824, 5, 60),
  (yX0_leanOfRest, cX0_leanOfRest, 4, (some .int), 1, 24, 0, 0, 2, 0, 846, 845, 8, 60),
  (yX0_findBest, cX0_findBest, 3, (some .boolean), 5, 116, 0, 0, 0, 0, 811, 809, 810, 60),
  (yX0_isBetter, cX0_isBetter, 1, (some .boolean), 3, 65, 0, 0, 0, 0, 880, 879, 13, 60),
  (yX0_keepAsBest, cX0_keepAsBest, 1, none, 4, 87, 0, 0, 0, 0, 851, 850, 9, 60),
  (yX0_wholeCost, cX0_wholeCost, 2, (some .int), 2, 44, 0, 0, 0, 0, 863, 862, 10, 60),
  (yX0_wholeSteps, cX0_wholeSteps, 2, (some .int), 2, 44, 0, 0, 0, 0, 867, 866, 11, 60),
  (yX0_toNextOrder, cX0_toNextOrder, 5, (some .int), 3, 69, 0, 0, 0, 0, 871, 870, 12, 60),
  (yX0_measureFrom, cX0_measureFrom, 7, none, 3, 66, 0, 0, 1, 0, 831, 830, 6, 60),
  (yX0_turnFor, cX0_turnFor, 2, (some .int), 2, 45, 0, 0, 1, 0, 837, 836, 7, 60),
  (yX0_takeFigures, cX0_takeFigures, 6, (some .boolean), 2, 46, 0, 0, 1, 0, 909, 907, 908, 60),
  (yX0_costAsItStands, cX0_costAsItStands, 1, (some .int), 4, 92, 0, 0, 0, 0, 915, 913, 914, 60),
  (yX1_init, cX1_init, 2, none, 3, 66, 4, 404, 1, 2, 289, 288, 0, 62),
  (yX1_allows, cX1_allows, 2, (some .boolean), 1, 24, 0, 0, 2, 1, 990, 989, 0, 62),
  (yX1_startAnew, cX1_startAnew, 2, (some .int), 2, 44, 0, 0, 0, 0, 407, 405, 406, 62),
  (yX1_write, cX1_write, 3, (some .int), 3, 65, 0, 0, 2, 0, 994, 992, 993, 62),
  (yX1_mostUpEver, cX1_mostUpEver, 1, (some .int), 2, 44, 0, 0, 0, 0, 1008, 1007, 19, 62),
  (yX1_mayBeUp, cX1_mayBeUp, 2, (some .boolean), 3, 64, 0, 0, 1, 0, 1004, 1002, 1003, 62),
  (yX1_leastUp, cX1_leastUp, 1, (some .int), 1, 24, 0, 0, 0, 0, 1024, 1022, 1023, 62),
  (yX1_mostUp, cX1_mostUp, 1, (some .int), 1, 24, 0, 0, 0, 0, 1028, 1026, 1027, 62),
  (yX1_follow, cX1_follow, 3, (some .boolean), 4, 86, 0, 0, 1, 0, 1013, 1011, 1012, 62),
  (yX1_countBegins, cX1_countBegins, 2, (some .int), 4, 86, 0, 0, 0, 0, 1036, 1034, 1035, 62),
  (yX1_turnedBack, cX1_turnedBack, 1, (some .int), 1, 24, 0, 0, 1, 1, 1039, 1038, 0, 62),
  (yX1_pass, cX1_pass, 3, (some .boolean), 3, 64, 0, 0, 2, 0, 1018, 1017, 20, 62),
  (yX1_mixInto, cX1_mixInto, 4, (some .long), 2, 47, 0, 0, 1, 0, 1174, 1172, 1173, 62),
  (yX2_init, cX2_init, 1, none, 3, 66, 12, 1212, 0, 2, 158, 157, 0, 58),
  (yX2_allows, cX2_allows, 5, (some .boolean), 2, 44, 0, 0, 5, 1, 662, 661, 0, 58),
  (yX2_weighs, cX2_weighs, 1, (some .boolean), 1, 24, 0, 0, 1, 1, 665, 664, 0, 58),
  (yX2_together, cX2_together, 7, (some .int), 1, 24, 0, 0, 4, 1, 681, 680, 0, 58),
  (yX2_startAnew, cX2_startAnew, 1, none, 2, 44, 0, 0, 0, 0, 401, 399, 400, 58),
  (yX2_count, cX2_count, 1, (some .int), 2, 44, 0, 0, 0, 0, 492, 490, 491, 58),
  (yX2_hasRoom, cX2_hasRoom, 1, (some .boolean), 2, 44, 0, 0, 0, 0, 677, 675, 676, 58),
  (yX2_add, cX2_add, 5, (some .int), 3, 65, 0, 0, 3, 0, 689, 687, 688, 58),
  (yX2_personsOf, cX2_personsOf, 2, (some .int), 2, 45, 0, 0, 1, 0, 717, 715, 716, 58),
  (yX2_personsOfAll, cX2_personsOfAll, 4, (some .int), 2, 45, 0, 0, 1, 0, 471, 469, 470, 58),
  (yX2_weightOf, cX2_weightOf, 2, (some .int), 2, 45, 0, 0, 1, 0, 723, 721, 722, 58),
  (yX2_wantsAlone, cX2_wantsAlone, 2, (some .boolean), 2, 45, 0, 0, 1, 0, 588, 586, 587, 58),
  (yX2_moveTo, cX2_moveTo, 3, none, 2, 46, 0, 0, 2, 0, 754, 752, 753, 58),
  (yX2_see, cX2_see, 2, none, 2, 46, 0, 0, 1, 0, 651, 649, 650, 58),
  (yX2_timesPassed, cX2_timesPassed, 2, (some .int), 2, 45, 0, 0, 1, 0, 742, 740, 741, 58),
  (yX2_passOver, cX2_passOver, 2, none, 2, 46, 0, 0, 1, 0, 746, 744, 745, 58),
  (yX2_tell, cX2_tell, 3, (some .int), 3, 64, 0, 0, 2, 0, 803, 801, 802, 58),
  (yX2_mixInto, cX2_mixInto, 5, (some .long), 4, 86, 0, 0, 1, 0, 1163, 1161, 1162, 58),
  (yX3_init, cX3_init, 2, none, 4, 85, 10, 726, 1, 2, 313, 312, 0, 63),
  (yX3_startAnew, cX3_startAnew, 1, none, 3, 65, 0, 0, 0, 0, 320, 318, 319, 63),
  (yX3_dropAll, cX3_dropAll, 2, (some .int), 2, 44, 0, 0, 0, 0, 324, 322, 323, 63),
  (yX3_holds, cX3_holds, 1, (some .boolean), 1, 24, 0, 0, 1, 1, 1054, 1053, 0, 63),
  (yX3_suppose, cX3_suppose, 4, (some .boolean), 2, 44, 0, 0, 3, 0, 1051, 1049, 1050, 63),
  (yX3_allows, cX3_allows, 2, (some .boolean), 1, 24, 0, 0, 2, 1, 1061, 1060, 0, 63),
  (yX3_write, cX3_write, 4, (some .int), 3, 65, 0, 0, 3, 0, 1068, 1066, 1067, 63),
  (yX3_lowOf, cX3_lowOf, 2, (some .int), 2, 44, 0, 0, 1, 0, 1101, 1099, 1100, 63),
  (yX3_highOf, cX3_highOf, 2, (some .int), 2, 44, 0, 0, 1, 0, 1105, 1103, 1104, 63),
  (yX3_narrow, cX3_narrow, 2, (some .int), 6, 141, 0, 0, 0, 0, 1083, 1081, 1082, 63),
  (yX3_narrowBy, cX3_narrowBy, 10, (some .boolean), 5, 112, 0, 0, 1, 0, 1090, 1089, 21, 63),
  (yX3_leastOf, cX3_leastOf, 4, (some .int), 3, 69, 0, 0, 2, 0, 1096, 1095, 22, 63),
  (yX3_mostOf, cX3_mostOf, 4, (some .int), 3, 69, 0, 0, 2, 0, 1109, 1108, 23, 63),
  (yX3_narrowCabin, cX3_narrowCabin, 5, (some .boolean), 4, 88, 0, 0, 4, 0, 1113, 1112, 24, 63),
  (yX3_dividedDown, cX3_dividedDown, 2, (some .int), 2, 46, 0, 0, 2, 1, 1119, 1118, 0, 63),
  (yX3_dividedUp, cX3_dividedUp, 2, (some .int), 3, 67, 0, 0, 2, 1, 1116, 1115, 0, 63),
  (yX3_countAgreeing, cX3_countAgreeing, 4, (some .int), 3, 66, 0, 0, 0, 0, 1138, 1136, 1137, 63),
  (yX3_mixInto, cX3_mixInto, 4, (some .long), 2, 47, 0, 0, 1, 0, 1179, 1177, 1178, 63),
  (yX4_init, cX4_init, 3, none, 1, 24, 0, 0, 2, 2, 130, 129, 0, 56),
  (yX4_startAnew, cX4_startAnew, 1, none, 1, 24, 0, 0, 0, 0, 393, 391, 392, 56),
  (yX4_warmthNow, cX4_warmthNow, 1, (some .int), 1, 24, 0, 0, 0, 0, 439, 437, 438, 56),
  (yX4_stepsDone, cX4_stepsDone, 1, (some .int), 1, 24, 0, 0, 0, 0, 484, 482, 483, 56),
  (yX4_isDriven, cX4_isDriven, 1, (some .boolean), 1, 24, 0, 0, 0, 0, 496, 494, 495, 56),
  (yX4_setDriven, cX4_setDriven, 3, (some .boolean), 1, 24, 0, 0, 1, 0, 527, 525, 526, 56),
  (yX4_leanAfterStep, cX4_leanAfterStep, 1, (some .int), 3, 66, 0, 0, 0, 0, 616, 615, 2, 56),
  (yX4_warmthAfterStep, cX4_warmthAfterStep, 2, (some .int), 4, 86, 0, 0, 0, 0, 628, 627, 3, 56),
  (yX4_whyNot, cX4_whyNot, 2, (some .int), 5, 107, 0, 0, 0, 0, 612, 610, 611, 56),
  (yX4_goOn, cX4_goOn, 1, (some .boolean), 6, 128, 0, 0, 0, 0, 608, 606, 607, 56),
  (yX5_init, cX5_init, 4, none, 4, 86, 78, 7712, 2, 2, 152, 151, 0, 57),
  (yX5_startAnew, cX5_startAnew, 2, none, 3, 64, 0, 0, 0, 0, 397, 395, 396, 57),
  (yX5_insideOf, cX5_insideOf, 2, (some (.object "EvenWheel$Row")), 1, 24, 0, 0, 1, 0, 467, 466, 1, 57),
  (yX5_partiesCome, cX5_partiesCome, 1, (some .int), 3, 64, 0, 0, 0, 0, 488, 486, 487, 57),
  (yX5_tellParty, cX5_tellParty, 3, (some .int), 4, 86, 0, 0, 2, 0, 799, 797, 798, 57),
  (yX5_partiesIn, cX5_partiesIn, 2, (some .int), 2, 45, 0, 0, 1, 0, 578, 576, 577, 57),
  (yX5_partyIn, cX5_partyIn, 3, (some .int), 2, 45, 0, 0, 2, 0, 600, 598, 599, 57),
  (yX5_personsIn, cX5_personsIn, 2, (some .int), 3, 68, 0, 0, 1, 0, 463, 461, 462, 57),
  (yX5_personsUp, cX5_personsUp, 3, (some .int), 4, 89, 0, 0, 0, 0, 455, 453, 454, 57),
  (yX5_personsWaiting, cX5_personsWaiting, 1, (some .int), 3, 68, 0, 0, 0, 0, 480, 478, 479, 57),
  (yX5_isAlone, cX5_isAlone, 4, (some .boolean), 3, 66, 0, 0, 1, 0, 583, 581, 582, 57),
  (yX5_showTop, cX5_showTop, 3, none, 3, 67, 0, 0, 0, 0, 646, 644, 645, 57),
  (yX5_takesMore, cX5_takesMore, 1, (some .boolean), 3, 64, 0, 0, 0, 0, 669, 667, 668, 57),
  (yX5_queueUp, cX5_queueUp, 5, (some .int), 4, 89, 0, 0, 3, 0, 685, 683, 684, 57),
  (yX5_waiting, cX5_waiting, 2, (some .int), 2, 45, 0, 0, 1, 0, 704, 702, 703, 57),
  (yX5_mayBoard, cX5_mayBoard, 3, (some .boolean), 4, 93, 0, 0, 1, 0, 712, 710, 711, 57),
  (yX5_placeOfNext, cX5_placeOfNext, 4, (some .int), 5, 115, 0, 0, 0, 0, 737, 736, 4, 57),
  (yX5_boardNext, cX5_boardNext, 4, (some .int), 6, 138, 0, 0, 0, 0, 733, 731, 732, 57),
  (yX5_sendAway, cX5_sendAway, 3, (some .int), 3, 68, 0, 0, 1, 0, 770, 768, 769, 57),
  (yX5_isAtDoor, cX5_isAtDoor, 2, (some .boolean), 3, 65, 0, 0, 1, 0, 778, 776, 777, 57),
  (yX5_mayLeave, cX5_mayLeave, 3, (some .boolean), 5, 113, 0, 0, 1, 0, 786, 784, 785, 57),
  (yX5_getOff, cX5_getOff, 4, (some .int), 4, 92, 0, 0, 1, 0, 791, 789, 790, 57),
  (yX5_vacate, cX5_vacate, 5, (some .int), 4, 92, 0, 0, 1, 0, 972, 970, 971, 57),
  (yX5_mixInto, cX5_mixInto, 4, (some .long), 5, 110, 0, 0, 1, 0, 1159, 1157, 1158, 57),
  (yX6_init, cX6_init, 3, none, 3, 66, 3, 232, 2, 2, 265, 264, 0, 61),
  (yX6_rollNow, cX6_rollNow, 2, (some .int), 4, 87, 0, 0, 0, 0, 923, 921, 922, 61),
  (yX6_letAllOut, cX6_letAllOut, 3, (some .int), 5, 116, 0, 0, 0, 0, 952, 950, 951, 61),
  (yX6_wouldStrand, cX6_wouldStrand, 3, (some .int), 5, 113, 0, 0, 0, 0, 981, 979, 980, 61),
  (yX6_copyWheel, cX6_copyWheel, 2, none, 3, 66, 0, 0, 0, 0, 927, 926, 14, 61),
  (yX6_leanAt, cX6_leanAt, 2, (some .int), 1, 24, 0, 0, 1, 0, 938, 937, 16, 61),
  (yX6_toRest, cX6_toRest, 5, (some .int), 2, 45, 0, 0, 0, 0, 934, 933, 15, 61),
  (yX6_tryLettingOut, cX6_tryLettingOut, 3, none, 4, 91, 0, 0, 0, 0, 956, 955, 17, 61),
  (yX6_takeOff, cX6_takeOff, 3, none, 3, 69, 0, 0, 1, 0, 965, 964, 18, 61),
  (yX7_init, cX7_init, 2, none, 2, 45, 1, 200, 1, 2, 164, 163, 0, 59),
  (yX7_count, cX7_count, 1, (some .int), 1, 24, 0, 0, 0, 0, 328, 326, 327, 59),
  (yX7_hasRoom, cX7_hasRoom, 1, (some .boolean), 1, 24, 0, 0, 0, 0, 673, 671, 672, 59),
  (yX7_at, cX7_at, 2, (some .int), 1, 24, 0, 0, 1, 0, 476, 474, 475, 59),
  (yX7_placeOf, cX7_placeOf, 3, (some .int), 1, 24, 0, 0, 1, 0, 782, 780, 781, 59),
  (yX7_append, cX7_append, 2, none, 2, 44, 0, 0, 1, 0, 694, 692, 693, 59),
  (yX7_set, cX7_set, 3, none, 1, 24, 0, 0, 2, 0, 655, 653, 654, 59),
  (yX7_swap, cX7_swap, 4, none, 2, 46, 0, 0, 2, 0, 875, 873, 874, 59),
  (yX7_cut, cX7_cut, 3, none, 1, 24, 0, 0, 1, 0, 750, 748, 749, 59),
  (yX7_clear, cX7_clear, 1, none, 1, 24, 0, 0, 0, 0, 332, 330, 331, 59),
  (yX7_copyFrom, cX7_copyFrom, 3, none, 3, 65, 0, 0, 1, 0, 855, 853, 854, 59),
  (yX7_mixInto, cX7_mixInto, 4, (some .long), 2, 47, 0, 0, 1, 0, 1169, 1167, 1168, 59),
  (yX8_init, cX8_init, 1, none, 1, 24, 1, 4, 0, 2, 78, 77, 0, 52),
  (yX8_names, cX8_names, 1, (some .boolean), 1, 24, 0, 0, 1, 1, 503, 502, 0, 52),
  (yX8_allows, cX8_allows, 2, (some .boolean), 2, 44, 0, 0, 2, 1, 506, 505, 0, 52),
  (yX8_valueOf, cX8_valueOf, 2, (some .int), 2, 44, 0, 0, 1, 0, 519, 517, 518, 52),
  (yX8_change, cX8_change, 4, (some .int), 3, 65, 0, 0, 2, 0, 515, 513, 514, 52),
  (yX8_mixInto, cX8_mixInto, 4, (some .long), 2, 47, 0, 0, 1, 0, 1154, 1152, 1153, 52),
  (yX9_init, cX9_init, 1, none, 4, 91, 3, 90, 0, 2, 90, 89, 0, 53),
  (yX9_sixtiethsApart, cX9_sixtiethsApart, 1, (some .int), 1, 24, 0, 0, 1, 1, 98, 97, 0, 53),
  (yX9_lay, cX9_lay, 4, none, 3, 68, 0, 0, 1, 0, 95, 93, 94, 53),
  (yX9_armAtSixtieth, cX9_armAtSixtieth, 4, (some .int), 2, 45, 0, 0, 1, 1, 104, 103, 0, 53),
  (yX9_has, cX9_has, 2, (some .boolean), 1, 24, 0, 0, 1, 0, 418, 416, 417, 53),
  (yX9_count, cX9_count, 1, (some .int), 1, 24, 0, 0, 0, 0, 459, 457, 458, 53),
  (yX9_turnNow, cX9_turnNow, 1, (some .int), 1, 24, 0, 0, 0, 0, 435, 433, 434, 53),
  (yX9_turnTo, cX9_turnTo, 2, none, 2, 45, 0, 0, 1, 0, 633, 631, 632, 53),
  (yX9_turnBehind, cX9_turnBehind, 2, (some .int), 1, 24, 0, 0, 1, 0, 621, 619, 620, 53),
  (yX9_turnAhead, cX9_turnAhead, 2, (some .int), 1, 24, 0, 0, 1, 0, 942, 940, 941, 53),
  (yX9_atDoor, cX9_atDoor, 1, (some .int), 2, 45, 0, 0, 0, 0, 443, 441, 442, 53),
  (yX9_atDoorWith, cX9_atDoorWith, 2, (some .int), 1, 24, 0, 0, 1, 0, 447, 445, 446, 53),
  (yX9_turnFor, cX9_turnFor, 2, (some .int), 1, 24, 0, 0, 1, 0, 841, 839, 840, 53),
  (yX9_atTop, cX9_atTop, 2, (some .int), 1, 24, 0, 0, 0, 0, 451, 449, 450, 53),
  (yX9_placeOf, cX9_placeOf, 2, (some .int), 2, 46, 0, 0, 1, 0, 592, 590, 591, 53),
  (yX9_placeWith, cX9_placeWith, 3, (some .int), 1, 24, 0, 0, 2, 0, 426, 425, 0, 53),
  (yX9_armOf, cX9_armOf, 4, (some .int), 2, 46, 0, 0, 2, 0, 422, 420, 421, 53),
  (yX9_loadOf, cX9_loadOf, 2, (some .int), 2, 45, 0, 0, 1, 0, 569, 567, 568, 53),
  (yX9_addLoad, cX9_addLoad, 4, none, 3, 69, 0, 0, 2, 0, 758, 756, 757, 53),
  (yX9_leanAt, cX9_leanAt, 2, (some .int), 2, 45, 0, 0, 1, 0, 535, 533, 534, 53),
  (yX9_greatestLean, cX9_greatestLean, 1, (some .int), 4, 93, 0, 0, 0, 0, 544, 542, 543, 53),
  (yX9_greatestWith, cX9_greatestWith, 5, (some .int), 3, 69, 0, 0, 2, 0, 548, 546, 547, 53),
  (yX9_worstTurn, cX9_worstTurn, 3, (some .int), 2, 44, 0, 0, 0, 0, 561, 559, 560, 53),
  (yX10_init, cX10_init, 1, none, 5, 111, 181, 11825, 0, 2, 70, 69, 0, 51),
  (yX10_build, cX10_build, 2, (some .int), 4, 91, 0, 0, 1, 0, 387, 385, 386, 51),
  (yX10_arm, cX10_arm, 2, (some .int), 3, 69, 0, 0, 1, 0, 414, 412, 413, 51),
  (yX10_told, cX10_told, 2, (some .int), 5, 111, 0, 0, 1, 0, 431, 429, 430, 51),
  (yX10_rule, cX10_rule, 3, (some .int), 4, 88, 0, 0, 2, 0, 500, 498, 499, 51),
  (yX10_drive, cX10_drive, 2, (some .int), 2, 46, 0, 0, 1, 0, 523, 521, 522, 51),
  (yX10_lean, cX10_lean, 2, (some .int), 3, 66, 0, 0, 1, 0, 531, 529, 530, 51),
  (yX10_greatest, cX10_greatest, 1, (some .int), 5, 113, 0, 0, 0, 0, 540, 538, 539, 51),
  (yX10_worst, cX10_worst, 1, (some .int), 3, 66, 0, 0, 0, 0, 557, 555, 556, 51),
  (yX10_load, cX10_load, 2, (some .int), 3, 66, 0, 0, 1, 0, 565, 563, 564, 51),
  (yX10_cabin, cX10_cabin, 3, (some .int), 4, 89, 0, 0, 2, 0, 573, 571, 572, 51),
  (yX10_inside, cX10_inside, 3, (some .int), 3, 67, 0, 0, 2, 0, 596, 594, 595, 51),
  (yX10_step, cX10_step, 1, (some .int), 7, 148, 0, 0, 0, 0, 604, 602, 603, 51),
  (yX10_why, cX10_why, 1, (some .int), 6, 128, 0, 0, 0, 0, 637, 635, 636, 51),
  (yX10_stop, cX10_stop, 3, (some .int), 7, 148, 0, 0, 1, 0, 642, 640, 641, 51),
  (yX10_come, cX10_come, 6, (some .int), 5, 113, 0, 0, 5, 0, 659, 657, 658, 51),
  (yX10_waits, cX10_waits, 2, (some .int), 3, 66, 0, 0, 1, 0, 700, 698, 699, 51),
  (yX10_may, cX10_may, 3, (some .int), 5, 115, 0, 0, 1, 0, 708, 706, 707, 51),
  (yX10_next, cX10_next, 1, (some .int), 7, 161, 0, 0, 0, 0, 729, 727, 728, 51),
  (yX10_fill, cX10_fill, 2, (some .int), 7, 161, 0, 0, 0, 0, 762, 760, 761, 51),
  (yX10_tire, cX10_tire, 2, (some .int), 4, 90, 0, 0, 1, 0, 766, 764, 765, 51),
  (yX10_leave, cX10_leave, 2, (some .int), 6, 135, 0, 0, 1, 0, 774, 772, 773, 51),
  (yX10_party, cX10_party, 3, (some .int), 5, 108, 0, 0, 2, 0, 795, 793, 794, 51),
  (yX10_order, cX10_order, 2, (some .int), 6, 138, 0, 0, 1, 0, 807, 805, 806, 51),
  (yX10_ordered, cX10_ordered, 2, (some .int), 6, 138, 0, 0, 1, 0, 896, 894, 895, 51),
  (yX10_cost, cX10_cost, 2, (some .int), 5, 116, 0, 0, 1, 0, 904, 902, 903, 51),
  (yX10_roll, cX10_roll, 1, (some .int), 5, 108, 0, 0, 0, 0, 919, 917, 918, 51),
  (yX10_letOut, cX10_letOut, 1, (some .int), 6, 138, 0, 0, 0, 0, 948, 946, 947, 51),
  (yX10_stranded, cX10_stranded, 1, (some .int), 6, 135, 0, 0, 0, 0, 977, 975, 976, 51),
  (yX10_note, cX10_note, 3, (some .int), 4, 87, 0, 0, 2, 0, 987, 985, 986, 51),
  (yX10_up, cX10_up, 3, (some .int), 5, 108, 0, 0, 2, 0, 1000, 998, 999, 51),
  (yX10_begins, cX10_begins, 1, (some .int), 5, 107, 0, 0, 0, 0, 1032, 1030, 1031, 51),
  (yX10_tear, cX10_tear, 1, (some .int), 3, 65, 0, 0, 0, 0, 1043, 1041, 1042, 51),
  (yX10_guess, cX10_guess, 4, (some .int), 3, 67, 0, 0, 3, 0, 1047, 1045, 1046, 51),
  (yX10_read, cX10_read, 4, (some .int), 4, 88, 0, 0, 3, 0, 1058, 1056, 1057, 51),
  (yX10_forget, cX10_forget, 1, (some .int), 3, 65, 0, 0, 0, 0, 1074, 1072, 1073, 51),
  (yX10_fit, cX10_fit, 3, (some .int), 7, 162, 0, 0, 2, 0, 1079, 1077, 1078, 51),
  (yX10_breaks, cX10_breaks, 1, (some .int), 7, 162, 0, 0, 0, 0, 1130, 1128, 1129, 51),
  (yX10_agree, cX10_agree, 1, (some .int), 7, 162, 0, 0, 0, 0, 1134, 1132, 1133, 51),
  (yX10_digest, cX10_digest, 3, (some .long), 6, 133, 0, 0, 0, 0, 1143, 1141, 1142, 51),
  (yX10_mix, cX10_mix, 4, (some .long), 1, 24, 0, 0, 2, 1, 1148, 1147, 0, 51),
  (yX11_init, cX11_init, 1, none, 2, 46, 25, 2140, 0, 2, 1185, 1184, 0, 64),
  (yX11_in, cX11_in, 6, (some .boolean), 1, 24, 0, 0, 3, 1, 1336, 1335, 0, 64),
  (yX11_size, cX11_size, 1, (some .int), 1, 24, 0, 0, 1, 1, 1397, 1396, 0, 64),
  (yX11_begin, cX11_begin, 3, none, 1, 24, 0, 0, 1, 0, 1191, 1190, 25, 64),
  (yX11_build, cX11_build, 2, (some .int), 2, 46, 0, 0, 1, 0, 1329, 1327, 1328, 64),
  (yX11_reach, cX11_reach, 1, (some .int), 1, 24, 0, 0, 1, 1, 1343, 1342, 0, 64),
  (yX11_armOf, cX11_armOf, 5, (some .int), 2, 44, 0, 0, 1, 0, 1340, 1339, 26, 64),
  (yX11_arm, cX11_arm, 2, (some .int), 3, 68, 0, 0, 1, 0, 1333, 1331, 1332, 64),
  (yX11_leanOf, cX11_leanOf, 4, (some .int), 3, 68, 0, 0, 1, 0, 1381, 1380, 30, 64),
  (yX11_worstOf, cX11_worstOf, 3, (some .int), 4, 91, 0, 0, 0, 0, 1394, 1393, 32, 64),
  (yX11_greatestOf, cX11_greatestOf, 1, (some .int), 5, 113, 0, 0, 0, 0, 1390, 1389, 31, 64),
  (yX11_atPlace, cX11_atPlace, 2, (some .int), 1, 24, 0, 0, 1, 0, 1351, 1350, 27, 64),
  (yX11_personsIn, cX11_personsIn, 4, (some .int), 1, 24, 0, 0, 1, 0, 1359, 1358, 29, 64),
  (yX11_upNow, cX11_upNow, 3, (some .int), 2, 47, 0, 0, 0, 0, 1355, 1354, 28, 64),
  (yX11_told, cX11_told, 4, (some .int), 3, 69, 0, 0, 1, 0, 1347, 1345, 1346, 64),
  (yX11_rule, cX11_rule, 4, (some .int), 2, 49, 0, 0, 2, 0, 1363, 1361, 1362, 64),
  (yX11_drive, cX11_drive, 3, (some .int), 1, 24, 0, 0, 1, 0, 1373, 1371, 1372, 64),
  (yX11_lean, cX11_lean, 2, (some .int), 4, 91, 0, 0, 1, 0, 1377, 1375, 1376, 64),
  (yX11_greatest, cX11_greatest, 1, (some .int), 6, 133, 0, 0, 0, 0, 1386, 1384, 1385, 64),
  (yX11_worst, cX11_worst, 1, (some .int), 5, 113, 0, 0, 0, 0, 1401, 1399, 1400, 64),
  (yX11_isCabin, cX11_isCabin, 2, (some .boolean), 2, 49, 0, 0, 1, 0, 1409, 1408, 33, 64),
  (yX11_load, cX11_load, 2, (some .int), 3, 70, 0, 0, 1, 0, 1405, 1403, 1404, 64),
  (yX11_isAlone, cX11_isAlone, 4, (some .boolean), 1, 24, 0, 0, 1, 0, 1417, 1416, 34, 64),
  (yX11_cabin, cX11_cabin, 3, (some .int), 3, 70, 0, 0, 2, 0, 1413, 1411, 1412, 64),
  (yX11_inside, cX11_inside, 3, (some .int), 3, 70, 0, 0, 2, 0, 1421, 1419, 1420, 64),
  (yX11_whyOf, cX11_whyOf, 3, (some .int), 4, 91, 0, 0, 0, 0, 1433, 1432, 36, 64),
  (yX11_goesOn, cX11_goesOn, 2, (some .boolean), 5, 113, 0, 0, 0, 0, 1429, 1428, 35, 64),
  (yX11_step, cX11_step, 1, (some .int), 6, 134, 0, 0, 0, 0, 1425, 1423, 1424, 64),
  (yX11_why, cX11_why, 1, (some .int), 5, 113, 0, 0, 0, 0, 1437, 1435, 1436, 64),
  (yX11_stop, cX11_stop, 5, (some .int), 6, 134, 0, 0, 1, 0, 1441, 1439, 1440, 64),
  (yX11_isWeight, cX11_isWeight, 1, (some .boolean), 2, 49, 0, 0, 1, 1, 1450, 1449, 0, 64),
  (yX11_come, cX11_come, 8, (some .int), 3, 69, 0, 0, 5, 0, 1446, 1444, 1445, 64),
  (yX11_waits, cX11_waits, 2, (some .int), 2, 49, 0, 0, 1, 0, 1456, 1454, 1455, 64),
  (yX11_mayBoard, cX11_mayBoard, 4, (some .boolean), 6, 133, 0, 0, 1, 0, 1464, 1463, 37, 64),
  (yX11_may, cX11_may, 2, (some .int), 7, 156, 0, 0, 1, 0, 1460, 1458, 1459, 64),
  (yX11_takeOut, cX11_takeOut, 3, none, 1, 24, 0, 0, 1, 0, 1476, 1475, 39, 64),
  (yX11_board, cX11_board, 4, (some .int), 7, 156, 0, 0, 0, 0, 1472, 1471, 38, 64),
  (yX11_next, cX11_next, 1, (some .int), 8, 179, 0, 0, 0, 0, 1468, 1466, 1467, 64),
  (yX11_fill, cX11_fill, 2, (some .int), 8, 179, 0, 0, 0, 0, 1480, 1478, 1479, 64),
  (yX11_tire, cX11_tire, 3, (some .int), 2, 49, 0, 0, 1, 0, 1484, 1482, 1483, 64),
  (yX11_leave, cX11_leave, 6, (some .int), 6, 133, 0, 0, 1, 0, 1488, 1486, 1487, 64),
  (yX11_partyOf, cX11_partyOf, 3, (some .int), 1, 24, 0, 0, 2, 0, 1496, 1495, 40, 64),
  (yX11_party, cX11_party, 3, (some .int), 2, 49, 0, 0, 2, 0, 1492, 1490, 1491, 64),
  (yX11_findLoaded, cX11_findLoaded, 2, none, 1, 24, 0, 0, 0, 0, 1504, 1503, 41, 64),
  (yX11_tryOrder, cX11_tryOrder, 4, none, 4, 91, 0, 0, 0, 0, 1516, 1515, 44, 64),
  (yX11_layOrder, cX11_layOrder, 9, none, 1, 24, 0, 0, 2, 0, 1512, 1511, 43, 64),
  (yX11_findBest, cX11_findBest, 4, none, 5, 114, 0, 0, 0, 0, 1508, 1507, 42, 64),
  (yX11_order, cX11_order, 2, (some .int), 6, 137, 0, 0, 1, 0, 1500, 1498, 1499, 64),
  (yX11_ordered, cX11_ordered, 2, (some .int), 6, 137, 0, 0, 1, 0, 1520, 1518, 1519, 64),
  (yX11_cost, cX11_cost, 6, (some .int), 5, 114, 0, 0, 1, 0, 1524, 1522, 1523, 64),
  (yX11_rollOn, cX11_rollOn, 6, (some .int), 4, 91, 0, 0, 0, 0, 1532, 1531, 45, 64),
  (yX11_roll, cX11_roll, 1, (some .int), 5, 116, 0, 0, 0, 0, 1528, 1526, 1527, 64),
  (yX11_letOut, cX11_letOut, 4, (some .int), 5, 116, 0, 0, 0, 0, 1536, 1534, 1535, 64),
  (yX11_stranded, cX11_stranded, 4, (some .int), 5, 116, 0, 0, 0, 0, 1540, 1538, 1539, 64),
  (yX11_note, cX11_note, 3, (some .int), 2, 49, 0, 0, 2, 0, 1544, 1542, 1543, 64),
  (yX11_follow, cX11_follow, 8, none, 2, 49, 0, 0, 1, 0, 1554, 1553, 46, 64),
  (yX11_endOf, cX11_endOf, 4, (some .int), 1, 24, 0, 0, 1, 0, 1558, 1557, 47, 64),
  (yX11_up, cX11_up, 3, (some .int), 3, 76, 0, 0, 2, 0, 1550, 1548, 1549, 64),
  (yX11_begins, cX11_begins, 3, (some .int), 3, 76, 0, 0, 0, 0, 1562, 1560, 1561, 64),
  (yX11_tear, cX11_tear, 2, (some .int), 1, 24, 0, 0, 0, 0, 1566, 1564, 1565, 64),
  (yX11_guess, cX11_guess, 4, (some .int), 3, 70, 0, 0, 3, 0, 1570, 1568, 1569, 64),
  (yX11_read, cX11_read, 4, (some .int), 2, 49, 0, 0, 3, 0, 1575, 1573, 1574, 64),
  (yX11_forget, cX11_forget, 2, (some .int), 1, 24, 0, 0, 0, 0, 1582, 1580, 1581, 64),
  (yX11_down, cX11_down, 3, (some .int), 1, 24, 0, 0, 2, 1, 1600, 1599, 0, 64),
  (yX11_upward, cX11_upward, 2, (some .int), 2, 46, 0, 0, 2, 1, 1597, 1596, 0, 64),
  (yX11_narrow, cX11_narrow, 8, (some .boolean), 3, 68, 0, 0, 2, 0, 1594, 1593, 49, 64),
  (yX11_narrowAll, cX11_narrowAll, 3, (some .int), 4, 95, 0, 0, 0, 0, 1590, 1589, 48, 64),
  (yX11_fit, cX11_fit, 3, (some .int), 5, 117, 0, 0, 2, 0, 1586, 1584, 1585, 64),
  (yX11_breaks, cX11_breaks, 1, (some .int), 5, 117, 0, 0, 0, 0, 1604, 1602, 1603, 64),
  (yX11_agree, cX11_agree, 3, (some .int), 5, 117, 0, 0, 0, 0, 1608, 1606, 1607, 64),
  (yX11_digest, cX11_digest, 5, (some .long), 2, 46, 0, 0, 0, 0, 1612, 1610, 1611, 64),
  (yJ9_floorDiv_7cf53, cJ9_floorDiv_7cf53, 3, (some .int), 1, 24, 0, 0, 2, 1, 1122, 1121, 0, 55),
  (yJ9_abs_0f7a4, cJ9_abs_0f7a4, 1, (some .int), 1, 24, 0, 0, 1, 1, 552, 551, 0, 55),
  (yJ9_max_7cf53, cJ9_max_7cf53, 2, (some .int), 1, 24, 0, 0, 2, 1, 168, 167, 0, 55),
  (yJ9_min_7cf53, cJ9_min_7cf53, 2, (some .int), 1, 24, 0, 0, 2, 1, 107, 106, 0, 55),
  (yJ7_fill_53178, cJ7_fill_53178, 4, none, 1, 24, 0, 0, 2, 1, 101, 100, 0, 54),
  (yL_law, cL_law, 4, some .boolean, 10, 354, 600000, 7302250, 1, 1, 0, 0, 0, 0)]
abbrev e_PI : Type := Nat × Nat × Nat × Nat × Int32
def e_in_0 : List (Nat × Instr × Nat) := [(0, .aload_n 0, 1), (1, .invokespecial 3, 3), (4, .aload_n 0, 1), (5, .aload_n 1, 1), (6, .putfield 9, 3), (9, .aload_n 0, 1), (10, .new 15, 3), (13, .dup, 1), (14, .bipush 6, 2), (16, .invokespecial 17, 3), (19, .putfield 20, 3), (22, .aload_n 0, 1), (23, .new 15, 3), (26, .dup, 1), (27, .bipush 6, 2), (29, .invokespecial 17, 3), (32, .putfield 24, 3), (35, .aload_n 0, 1), (36, .new 15, 3), (39, .dup, 1), (40, .bipush 6, 2), (42, .invokespecial 17, 3), (45, .putfield 27, 3), (48, .aload_n 0, 1), (49, .bipush 64, 2), (51, .bipush 30, 2), (53, .multianewarray 30 2, 4), (57, .putfield 32, 3), (60, .aload_n 0, 1), (61, .bipush 7, 2), (63, .newarray .int, 2), (65, .putfield 35, 3), (68, .aload_n 0, 1), (69, .bipush 7, 2), (71, .newarray .int, 2), (73, .putfield 39, 3), (76, .aload_n 0, 1), (77, .bipush 7, 2), (79, .newarray .int, 2), (81, .putfield 42, 3), (84, .return_, 1)]
/-- EvenWheel.Emptying.init(LEvenWheel.Wheel )V -/
def e_pg_0 : List (Nat × e_PI) := [(0, 2, 0, 1, 0, 0), (1, 46, 87, 0, 0, 0), (4, 2, 0, 1, 0, 0), (5, 2, 1, 1, 0, 0), (6, 31, 8, 0, 0, 2), (9, 2, 0, 1, 0, 0), (10, 43, 8, 7, 0, 0), (13, 24, 0, 0, 0, 0), (14, 0, 2, 0, 0, 6), (16, 44, 1415, 110, 2, 0), (19, 31, 9, 0, 1, 2), (22, 2, 0, 1, 0, 0), (23, 43, 8, 7, 0, 0), (26, 24, 0, 0, 0, 0), (27, 0, 2, 0, 0, 6), (29, 44, 1415, 110, 2, 0), (32, 31, 10, 0, 2, 2), (35, 2, 0, 1, 0, 0), (36, 43, 8, 7, 0, 0), (39, 24, 0, 0, 0, 0), (40, 0, 2, 0, 0, 6), (42, 44, 1415, 110, 2, 0), (45, 31, 11, 0, 3, 2), (48, 2, 0, 1, 0, 0), (49, 0, 2, 0, 0, 64), (51, 0, 2, 0, 0, 30), (53, 42, 30, 225, 0, 0), (57, 31, 12, 0, 4, 2), (60, 2, 0, 1, 0, 0), (61, 0, 2, 0, 0, 7), (63, 40, 0, 0, 0, 0), (65, 31, 13, 0, 5, 2), (68, 2, 0, 1, 0, 0), (69, 0, 2, 0, 0, 7), (71, 40, 0, 0, 0, 0), (73, 31, 14, 0, 6, 2), (76, 2, 0, 1, 0, 0), (77, 0, 2, 0, 0, 7), (79, 40, 0, 0, 0, 0), (81, 31, 15, 0, 7, 2), (84, 50, 0, 0, 0, 0)]
def e_in_1 : List (Nat × Instr × Nat) := [(0, .aload_n 0, 1), (1, .getfield 27, 3), (4, .invokevirtual 45, 3), (7, .ireturn, 1)]
/-- EvenWheel.Emptying.cabinsOfBest()I -/
def e_pg_1 : List (Nat × e_PI) := [(0, 2, 0, 1, 0, 0), (1, 30, 11, 0, 3, 0), (4, 44, 1431, 111, 1, 0), (7, 51, 0, 0, 0, 0)]
def e_in_2 : List (Nat × Instr × Nat) := [(0, .aload_n 0, 1), (1, .getfield 20, 3), (4, .aload_n 0, 1), (5, .getfield 27, 3), (8, .iload_n 1, 1), (9, .invokevirtual 49, 3), (12, .invokevirtual 49, 3), (15, .ireturn, 1)]
/-- EvenWheel.Emptying.cabinOfBest(I)I -/
def e_pg_2 : List (Nat × e_PI) := [(0, 2, 0, 1, 0, 0), (1, 30, 9, 0, 1, 0), (4, 2, 0, 1, 0, 0), (5, 30, 11, 0, 3, 0), (8, 1, 1, 1, 0, 0), (9, 44, 1447, 113, 2, 0), (12, 44, 1447, 113, 2, 0), (15, 51, 0, 0, 0, 0)]
def e_in_3 : List (Nat × Instr × Nat) := [(0, .aload_n 0, 1), (1, .getfield 53, 3), (4, .ireturn, 1)]
/-- EvenWheel.Emptying.costOfBest()I -/
def e_pg_3 : List (Nat × e_PI) := [(0, 2, 0, 1, 0, 0), (1, 30, 16, 0, 8, 0), (4, 51, 0, 0, 0, 0)]
def e_in_4 : List (Nat × Instr × Nat) := [(0, .aload_n 0, 1), (1, .getfield 57, 3), (4, .ireturn, 1)]
/-- EvenWheel.Emptying.stepsOfBest()I -/
def e_pg_4 : List (Nat × e_PI) := [(0, 2, 0, 1, 0, 0), (1, 30, 17, 0, 9, 0), (4, 51, 0, 0, 0, 0)]
def e_in_5 : List (Nat × Instr × Nat) := [(0, .aload_n 0, 1), (1, .getfield 20, 3), (4, .invokevirtual 60, 3), (7, .aload_n 0, 1), (8, .getfield 24, 3), (11, .invokevirtual 60, 3), (14, .iconst 0, 1), (15, .istore_n 1, 1), (16, .iload_n 1, 1), (17, .aload_n 0, 1), (18, .getfield 9, 3), (21, .invokevirtual 63, 3), (24, .if_icmp .ge 57, 3), (27, .aload_n 0, 1), (28, .getfield 9, 3), (31, .iload_n 1, 1), (32, .invokevirtual 66, 3), (35, .ifCond .ne 6, 3), (38, .goto 37, 3), (41, .aload_n 0, 1), (42, .getfield 20, 3), (45, .invokevirtual 69, 3), (48, .ifCond .ne 5, 3), (51, .iconst 0, 1), (52, .ireturn, 1), (53, .aload_n 0, 1), (54, .getfield 24, 3), (57, .aload_n 0, 1), (58, .getfield 20, 3), (61, .invokevirtual 45, 3), (64, .invokevirtual 73, 3), (67, .aload_n 0, 1), (68, .getfield 20, 3), (71, .iload_n 1, 1), (72, .invokevirtual 73, 3), (75, .iinc 1 1, 3), (78, .goto (-62), 3), (81, .aload_n 0, 1), (82, .invokevirtual 76, 3), (85, .iconst 1, 1), (86, .ireturn, 1)]
/-- EvenWheel.Emptying.gather()Z -/
def e_pg_5 : List (Nat × e_PI) := [(0, 2, 0, 1, 0, 0), (1, 30, 9, 0, 1, 0), (4, 44, 1463, 119, 1, 0), (7, 2, 0, 1, 0, 0), (8, 30, 10, 0, 2, 0), (11, 44, 1463, 119, 1, 0), (14, 0, 1, 0, 0, 0), (15, 4, 1, 1, 0, 0), (16, 1, 1, 1, 0, 0), (17, 2, 0, 1, 0, 0), (18, 30, 8, 0, 0, 0), (21, 44, 1481, 133, 1, 0), (24, 29, 3, 81, 0, 0), (27, 2, 0, 1, 0, 0), (28, 30, 8, 0, 0, 0), (31, 1, 1, 1, 0, 0), (32, 44, 1497, 145, 2, 0), (35, 28, 1, 41, 0, 0), (38, 27, 75, 0, 0, 0), (41, 2, 0, 1, 0, 0), (42, 30, 9, 0, 1, 0), (45, 44, 1511, 112, 1, 0), (48, 28, 1, 53, 0, 0), (51, 0, 1, 0, 0, 0), (52, 52, 0, 0, 0, 0), (53, 2, 0, 1, 0, 0), (54, 30, 10, 0, 2, 0), (57, 2, 0, 1, 0, 0), (58, 30, 9, 0, 1, 0), (61, 44, 1431, 111, 1, 0), (64, 44, 1527, 115, 2, 0), (67, 2, 0, 1, 0, 0), (68, 30, 9, 0, 1, 0), (71, 1, 1, 1, 0, 0), (72, 44, 1527, 115, 2, 0), (75, 7, 1, 0, 0, 1), (78, 27, 16, 0, 0, 0), (81, 2, 0, 1, 0, 0), (82, 44, 1536, 6, 1, 0), (85, 0, 1, 0, 0, 1), (86, 52, 0, 0, 0, 0)]
def e_in_6 : List (Nat × Instr × Nat) := [(0, .iconst 0, 1), (1, .istore_n 1, 1), (2, .iload_n 1, 1), (3, .aload_n 0, 1), (4, .getfield 20, 3), (7, .invokevirtual 45, 3), (10, .if_icmp .ge 117, 3), (13, .iload_n 1, 1), (14, .bipush 6, 2), (16, .if_icmp .ge 111, 3), (19, .iconst 1, 1), (20, .iload_n 1, 1), (21, .ishl, 1), (22, .istore_n 2, 1), (23, .aload_n 0, 1), (24, .getfield 20, 3), (27, .iload_n 1, 1), (28, .invokevirtual 49, 3), (31, .istore_n 3, 1), (32, .iconst 0, 1), (33, .istore 4, 2), (35, .iload 4, 2), (37, .aload_n 0, 1), (38, .getfield 9, 3), (41, .invokevirtual 63, 3), (44, .if_icmp .ge 77, 3), (47, .iload 4, 2), (49, .bipush 30, 2), (51, .if_icmp .ge 70, 3), (54, .aload_n 0, 1), (55, .getfield 9, 3), (58, .iload_n 3, 1), (59, .invokevirtual 66, 3), (62, .aload_n 0, 1), (63, .getfield 9, 3), (66, .iload_n 3, 1), (67, .iload 4, 2), (69, .invokevirtual 79, 3), (72, .imul, 1), (73, .istore 5, 2), (75, .iconst 0, 1), (76, .istore 6, 2), (78, .iload 6, 2), (80, .iload_n 2, 1), (81, .if_icmp .ge 34, 3), (84, .aload_n 0, 1), (85, .getfield 32, 3), (88, .iload 6, 2), (90, .iload_n 2, 1), (91, .iadd, 1), (92, .aaload, 1), (93, .iload 4, 2), (95, .aload_n 0, 1), (96, .getfield 32, 3), (99, .iload 6, 2), (101, .aaload, 1), (102, .iload 4, 2), (104, .iaload, 1), (105, .iload 5, 2), (107, .iadd, 1), (108, .iastore, 1), (109, .iinc 6 1, 3), (112, .goto (-34), 3), (115, .iinc 4 1, 3), (118, .goto (-83), 3), (121, .iinc 1 1, 3), (124, .goto (-122), 3), (127, .return_, 1)]
/-- EvenWheel.Emptying.weighRests()V -/
def e_pg_6 : List (Nat × e_PI) := [(0, 0, 1, 0, 0, 0), (1, 4, 1, 1, 0, 0), (2, 1, 1, 1, 0, 0), (3, 2, 0, 1, 0, 0), (4, 30, 9, 0, 1, 0), (7, 44, 1431, 111, 1, 0), (10, 29, 3, 127, 0, 0), (13, 1, 1, 1, 0, 0), (14, 0, 2, 0, 0, 6), (16, 29, 3, 127, 0, 0), (19, 0, 1, 0, 0, 1), (20, 1, 1, 1, 0, 0), (21, 14, 0, 0, 0, 0), (22, 4, 2, 1, 0, 0), (23, 2, 0, 1, 0, 0), (24, 30, 9, 0, 1, 0), (27, 1, 1, 1, 0, 0), (28, 44, 1447, 113, 2, 0), (31, 4, 3, 1, 0, 0), (32, 0, 1, 0, 0, 0), (33, 4, 4, 2, 0, 0), (35, 1, 4, 2, 0, 0), (37, 2, 0, 1, 0, 0), (38, 30, 8, 0, 0, 0), (41, 44, 1481, 133, 1, 0), (44, 29, 3, 121, 0, 0), (47, 1, 4, 2, 0, 0), (49, 0, 2, 0, 0, 30), (51, 29, 3, 121, 0, 0), (54, 2, 0, 1, 0, 0), (55, 30, 8, 0, 0, 0), (58, 1, 3, 1, 0, 0), (59, 44, 1497, 145, 2, 0), (62, 2, 0, 1, 0, 0), (63, 30, 8, 0, 0, 0), (66, 1, 3, 1, 0, 0), (67, 1, 4, 2, 0, 0), (69, 44, 1561, 144, 3, 0), (72, 10, 0, 0, 0, 0), (73, 4, 5, 2, 0, 0), (75, 0, 1, 0, 0, 0), (76, 4, 6, 2, 0, 0), (78, 1, 6, 2, 0, 0), (80, 1, 2, 1, 0, 0), (81, 29, 3, 115, 0, 0), (84, 2, 0, 1, 0, 0), (85, 30, 12, 0, 4, 0), (88, 1, 6, 2, 0, 0), (90, 1, 2, 1, 0, 0), (91, 8, 0, 0, 0, 0), (92, 36, 0, 0, 0, 0), (93, 1, 4, 2, 0, 0), (95, 2, 0, 1, 0, 0), (96, 30, 12, 0, 4, 0), (99, 1, 6, 2, 0, 0), (101, 36, 0, 0, 0, 0), (102, 1, 4, 2, 0, 0), (104, 32, 0, 0, 0, 0), (105, 1, 5, 2, 0, 0), (107, 8, 0, 0, 0, 0), (108, 33, 0, 0, 0, 0), (109, 7, 6, 0, 0, 1), (112, 27, 78, 0, 0, 0), (115, 7, 4, 0, 0, 1), (118, 27, 35, 0, 0, 0), (121, 7, 1, 0, 0, 1), (124, 27, 2, 0, 0, 0), (127, 50, 0, 0, 0, 0)]
def e_in_7 : List (Nat × Instr × Nat) := [(0, .iload_n 1, 1), (1, .ifCond .lt 23, 3), (4, .iload_n 1, 1), (5, .bipush 64, 2), (7, .if_icmp .ge 17, 3), (10, .iload_n 2, 1), (11, .ifCond .lt 13, 3), (14, .iload_n 2, 1), (15, .bipush 30, 2), (17, .if_icmp .ge 7, 3), (20, .iconst 1, 1), (21, .goto 4, 3), (24, .iconst 0, 1), (25, .istore_n 3, 1), (26, .iload_n 3, 1), (27, .ifCond .eq 14, 3), (30, .aload_n 0, 1), (31, .getfield 32, 3), (34, .iload_n 1, 1), (35, .aaload, 1), (36, .iload_n 2, 1), (37, .iaload, 1), (38, .goto 4, 3), (41, .iconst 0, 1), (42, .ireturn, 1)]
/-- EvenWheel.Emptying.leanOfRest(II)I -/
def e_pg_7 : List (Nat × e_PI) := [(0, 1, 1, 1, 0, 0), (1, 28, 2, 24, 0, 0), (4, 1, 1, 1, 0, 0), (5, 0, 2, 0, 0, 64), (7, 29, 3, 24, 0, 0), (10, 1, 2, 1, 0, 0), (11, 28, 2, 24, 0, 0), (14, 1, 2, 1, 0, 0), (15, 0, 2, 0, 0, 30), (17, 29, 3, 24, 0, 0), (20, 0, 1, 0, 0, 1), (21, 27, 25, 0, 0, 0), (24, 0, 1, 0, 0, 0), (25, 4, 3, 1, 0, 0), (26, 1, 3, 1, 0, 0), (27, 28, 0, 41, 0, 0), (30, 2, 0, 1, 0, 0), (31, 30, 12, 0, 4, 0), (34, 1, 1, 1, 0, 0), (35, 36, 0, 0, 0, 0), (36, 1, 2, 1, 0, 0), (37, 32, 0, 0, 0, 0), (38, 27, 42, 0, 0, 0), (41, 0, 1, 0, 0, 0), (42, 51, 0, 0, 0, 0)]
def e_in_8 : List (Nat × Instr × Nat) := [(0, .aload_n 0, 1), (1, .getfield 83, 3), (4, .bipush 30, 2), (6, .if_icmp .ge 10, 3), (9, .aload_n 0, 1), (10, .invokevirtual 86, 3), (13, .ifCond .ne 5, 3), (16, .iconst 0, 1), (17, .ireturn, 1), (18, .aload_n 0, 1), (19, .dup, 1), (20, .getfield 83, 3), (23, .iconst 1, 1), (24, .iadd, 1), (25, .putfield 83, 3), (28, .aload_n 0, 1), (29, .iconst 0, 1), (30, .invokevirtual 89, 3), (33, .aload_n 0, 1), (34, .invokevirtual 92, 3), (37, .aload_n 0, 1), (38, .invokevirtual 95, 3), (41, .istore_n 1, 1), (42, .iconst 0, 1), (43, .istore_n 2, 1), (44, .iload_n 2, 1), (45, .sipush 720, 3), (48, .if_icmp .ge 35, 3), (51, .iload_n 1, 1), (52, .iconst (-1), 1), (53, .if_icmp .eq 30, 3), (56, .aload_n 0, 1), (57, .iload_n 1, 1), (58, .invokevirtual 89, 3), (61, .aload_n 0, 1), (62, .invokevirtual 98, 3), (65, .ifCond .eq 7, 3), (68, .aload_n 0, 1), (69, .invokevirtual 92, 3), (72, .aload_n 0, 1), (73, .invokevirtual 95, 3), (76, .istore_n 1, 1), (77, .iinc 2 1, 3), (80, .goto (-36), 3), (83, .iconst 1, 1), (84, .ireturn, 1)]
/-- EvenWheel.Emptying.findBest()Z -/
def e_pg_8 : List (Nat × e_PI) := [(0, 2, 0, 1, 0, 0), (1, 30, 18, 0, 10, 0), (4, 0, 2, 0, 0, 30), (6, 29, 3, 16, 0, 0), (9, 2, 0, 1, 0, 0), (10, 44, 1568, 5, 1, 0), (13, 28, 1, 18, 0, 0), (16, 0, 1, 0, 0, 0), (17, 52, 0, 0, 0, 0), (18, 2, 0, 1, 0, 0), (19, 24, 0, 0, 0, 0), (20, 30, 18, 0, 10, 0), (23, 0, 1, 0, 0, 1), (24, 8, 0, 0, 0, 0), (25, 31, 18, 0, 10, 0), (28, 2, 0, 1, 0, 0), (29, 0, 1, 0, 0, 0), (30, 44, 1584, 14, 2, 0), (33, 2, 0, 1, 0, 0), (34, 44, 1600, 10, 1, 0), (37, 2, 0, 1, 0, 0), (38, 44, 1616, 13, 1, 0), (41, 4, 1, 1, 0, 0), (42, 0, 1, 0, 0, 0), (43, 4, 2, 1, 0, 0), (44, 1, 2, 1, 0, 0), (45, 0, 3, 0, 0, 720), (48, 29, 3, 83, 0, 0), (51, 1, 1, 1, 0, 0), (52, 0, 1, 0, 0, -1), (53, 29, 0, 83, 0, 0), (56, 2, 0, 1, 0, 0), (57, 1, 1, 1, 0, 0), (58, 44, 1584, 14, 2, 0), (61, 2, 0, 1, 0, 0), (62, 44, 1632, 9, 1, 0), (65, 28, 0, 72, 0, 0), (68, 2, 0, 1, 0, 0), (69, 44, 1600, 10, 1, 0), (72, 2, 0, 1, 0, 0), (73, 44, 1616, 13, 1, 0), (76, 4, 1, 1, 0, 0), (77, 7, 2, 0, 0, 1), (80, 27, 44, 0, 0, 0), (83, 0, 1, 0, 0, 1), (84, 52, 0, 0, 0, 0)]
def e_in_9 : List (Nat × Instr × Nat) := [(0, .aload_n 0, 1), (1, .invokevirtual 101, 3), (4, .aload_n 0, 1), (5, .getfield 53, 3), (8, .if_icmp .lt 25, 3), (11, .aload_n 0, 1), (12, .invokevirtual 101, 3), (15, .aload_n 0, 1), (16, .getfield 53, 3), (19, .if_icmp .ne 18, 3), (22, .aload_n 0, 1), (23, .invokevirtual 104, 3), (26, .aload_n 0, 1), (27, .getfield 57, 3), (30, .if_icmp .ge 7, 3), (33, .iconst 1, 1), (34, .goto 4, 3), (37, .iconst 0, 1), (38, .ireturn, 1)]
/-- EvenWheel.Emptying.isBetter()Z -/
def e_pg_9 : List (Nat × e_PI) := [(0, 2, 0, 1, 0, 0), (1, 44, 1648, 11, 1, 0), (4, 2, 0, 1, 0, 0), (5, 30, 16, 0, 8, 0), (8, 29, 2, 33, 0, 0), (11, 2, 0, 1, 0, 0), (12, 44, 1648, 11, 1, 0), (15, 2, 0, 1, 0, 0), (16, 30, 16, 0, 8, 0), (19, 29, 1, 37, 0, 0), (22, 2, 0, 1, 0, 0), (23, 44, 1664, 12, 1, 0), (26, 2, 0, 1, 0, 0), (27, 30, 17, 0, 9, 0), (30, 29, 3, 37, 0, 0), (33, 0, 1, 0, 0, 1), (34, 27, 38, 0, 0, 0), (37, 0, 1, 0, 0, 0), (38, 52, 0, 0, 0, 0)]
def e_in_10 : List (Nat × Instr × Nat) := [(0, .aload_n 0, 1), (1, .getfield 27, 3), (4, .aload_n 0, 1), (5, .getfield 24, 3), (8, .invokevirtual 107, 3), (11, .aload_n 0, 1), (12, .aload_n 0, 1), (13, .invokevirtual 101, 3), (16, .putfield 53, 3), (19, .aload_n 0, 1), (20, .aload_n 0, 1), (21, .invokevirtual 104, 3), (24, .putfield 57, 3), (27, .return_, 1)]
/-- EvenWheel.Emptying.keepAsBest()V -/
def e_pg_10 : List (Nat × e_PI) := [(0, 2, 0, 1, 0, 0), (1, 30, 11, 0, 3, 0), (4, 2, 0, 1, 0, 0), (5, 30, 10, 0, 2, 0), (8, 44, 1687, 120, 2, 0), (11, 2, 0, 1, 0, 0), (12, 2, 0, 1, 0, 0), (13, 44, 1648, 11, 1, 0), (16, 31, 16, 0, 8, 0), (19, 2, 0, 1, 0, 0), (20, 2, 0, 1, 0, 0), (21, 44, 1664, 12, 1, 0), (24, 31, 17, 0, 9, 0), (27, 50, 0, 0, 0, 0)]
def e_in_11 : List (Nat × Instr × Nat) := [(0, .aload_n 0, 1), (1, .getfield 24, 3), (4, .invokevirtual 45, 3), (7, .istore_n 1, 1), (8, .iload_n 1, 1), (9, .aload_n 0, 1), (10, .getfield 39, 3), (13, .arraylength, 1), (14, .if_icmp .ge 12, 3), (17, .aload_n 0, 1), (18, .getfield 39, 3), (21, .iload_n 1, 1), (22, .iaload, 1), (23, .goto 4, 3), (26, .iconst 0, 1), (27, .ireturn, 1)]
/-- EvenWheel.Emptying.wholeCost()I -/
def e_pg_11 : List (Nat × e_PI) := [(0, 2, 0, 1, 0, 0), (1, 30, 10, 0, 2, 0), (4, 44, 1431, 111, 1, 0), (7, 4, 1, 1, 0, 0), (8, 1, 1, 1, 0, 0), (9, 2, 0, 1, 0, 0), (10, 30, 14, 0, 6, 0), (13, 38, 0, 0, 0, 0), (14, 29, 3, 26, 0, 0), (17, 2, 0, 1, 0, 0), (18, 30, 14, 0, 6, 0), (21, 1, 1, 1, 0, 0), (22, 32, 0, 0, 0, 0), (23, 27, 27, 0, 0, 0), (26, 0, 1, 0, 0, 0), (27, 51, 0, 0, 0, 0)]
def e_in_12 : List (Nat × Instr × Nat) := [(0, .aload_n 0, 1), (1, .getfield 24, 3), (4, .invokevirtual 45, 3), (7, .istore_n 1, 1), (8, .iload_n 1, 1), (9, .aload_n 0, 1), (10, .getfield 42, 3), (13, .arraylength, 1), (14, .if_icmp .ge 12, 3), (17, .aload_n 0, 1), (18, .getfield 42, 3), (21, .iload_n 1, 1), (22, .iaload, 1), (23, .goto 4, 3), (26, .iconst 0, 1), (27, .ireturn, 1)]
/-- EvenWheel.Emptying.wholeSteps()I -/
def e_pg_12 : List (Nat × e_PI) := [(0, 2, 0, 1, 0, 0), (1, 30, 10, 0, 2, 0), (4, 44, 1431, 111, 1, 0), (7, 4, 1, 1, 0, 0), (8, 1, 1, 1, 0, 0), (9, 2, 0, 1, 0, 0), (10, 30, 15, 0, 7, 0), (13, 38, 0, 0, 0, 0), (14, 29, 3, 26, 0, 0), (17, 2, 0, 1, 0, 0), (18, 30, 15, 0, 7, 0), (21, 1, 1, 1, 0, 0), (22, 32, 0, 0, 0, 0), (23, 27, 27, 0, 0, 0), (26, 0, 1, 0, 0, 0), (27, 51, 0, 0, 0, 0)]
def e_in_13 : List (Nat × Instr × Nat) := [(0, .aload_n 0, 1), (1, .getfield 24, 3), (4, .invokevirtual 45, 3), (7, .iconst 2, 1), (8, .isub, 1), (9, .istore_n 1, 1), (10, .iload_n 1, 1), (11, .ifCond .lt 30, 3), (14, .aload_n 0, 1), (15, .getfield 24, 3), (18, .iload_n 1, 1), (19, .invokevirtual 49, 3), (22, .aload_n 0, 1), (23, .getfield 24, 3), (26, .iload_n 1, 1), (27, .iconst 1, 1), (28, .iadd, 1), (29, .invokevirtual 49, 3), (32, .if_icmp .le 9, 3), (35, .iinc 1 (-1), 3), (38, .goto (-28), 3), (41, .iload_n 1, 1), (42, .ifCond .ge 5, 3), (45, .iconst (-1), 1), (46, .ireturn, 1), (47, .aload_n 0, 1), (48, .getfield 24, 3), (51, .invokevirtual 45, 3), (54, .iconst 1, 1), (55, .isub, 1), (56, .istore_n 2, 1), (57, .iload_n 2, 1), (58, .iload_n 1, 1), (59, .if_icmp .le 28, 3), (62, .aload_n 0, 1), (63, .getfield 24, 3), (66, .iload_n 2, 1), (67, .invokevirtual 49, 3), (70, .aload_n 0, 1), (71, .getfield 24, 3), (74, .iload_n 1, 1), (75, .invokevirtual 49, 3), (78, .if_icmp .ge 9, 3), (81, .iinc 2 (-1), 3), (84, .goto (-27), 3), (87, .aload_n 0, 1), (88, .getfield 24, 3), (91, .iload_n 1, 1), (92, .iload_n 2, 1), (93, .invokevirtual 111, 3), (96, .iload_n 1, 1), (97, .iconst 1, 1), (98, .iadd, 1), (99, .istore_n 3, 1), (100, .aload_n 0, 1), (101, .getfield 24, 3), (104, .invokevirtual 45, 3), (107, .iconst 1, 1), (108, .isub, 1), (109, .istore 4, 2), (111, .iload_n 3, 1), (112, .iload 4, 2), (114, .if_icmp .ge 22, 3), (117, .aload_n 0, 1), (118, .getfield 24, 3), (121, .iload_n 3, 1), (122, .iload 4, 2), (124, .invokevirtual 111, 3), (127, .iinc 3 1, 3), (130, .iinc 4 (-1), 3), (133, .goto (-22), 3), (136, .iload_n 1, 1), (137, .ireturn, 1)]
/-- EvenWheel.Emptying.toNextOrder()I -/
def e_pg_13 : List (Nat × e_PI) := [(0, 2, 0, 1, 0, 0), (1, 30, 10, 0, 2, 0), (4, 44, 1431, 111, 1, 0), (7, 0, 1, 0, 0, 2), (8, 9, 0, 0, 0, 0), (9, 4, 1, 1, 0, 0), (10, 1, 1, 1, 0, 0), (11, 28, 2, 41, 0, 0), (14, 2, 0, 1, 0, 0), (15, 30, 10, 0, 2, 0), (18, 1, 1, 1, 0, 0), (19, 44, 1447, 113, 2, 0), (22, 2, 0, 1, 0, 0), (23, 30, 10, 0, 2, 0), (26, 1, 1, 1, 0, 0), (27, 0, 1, 0, 0, 1), (28, 8, 0, 0, 0, 0), (29, 44, 1447, 113, 2, 0), (32, 29, 5, 41, 0, 0), (35, 7, 1, 0, 0, -1), (38, 27, 10, 0, 0, 0), (41, 1, 1, 1, 0, 0), (42, 28, 3, 47, 0, 0), (45, 0, 1, 0, 0, -1), (46, 51, 0, 0, 0, 0), (47, 2, 0, 1, 0, 0), (48, 30, 10, 0, 2, 0), (51, 44, 1431, 111, 1, 0), (54, 0, 1, 0, 0, 1), (55, 9, 0, 0, 0, 0), (56, 4, 2, 1, 0, 0), (57, 1, 2, 1, 0, 0), (58, 1, 1, 1, 0, 0), (59, 29, 5, 87, 0, 0), (62, 2, 0, 1, 0, 0), (63, 30, 10, 0, 2, 0), (66, 1, 2, 1, 0, 0), (67, 44, 1447, 113, 2, 0), (70, 2, 0, 1, 0, 0), (71, 30, 10, 0, 2, 0), (74, 1, 1, 1, 0, 0), (75, 44, 1447, 113, 2, 0), (78, 29, 3, 87, 0, 0), (81, 7, 2, 0, 0, -1), (84, 27, 57, 0, 0, 0), (87, 2, 0, 1, 0, 0), (88, 30, 10, 0, 2, 0), (91, 1, 1, 1, 0, 0), (92, 1, 2, 1, 0, 0), (93, 44, 1703, 117, 3, 0), (96, 1, 1, 1, 0, 0), (97, 0, 1, 0, 0, 1), (98, 8, 0, 0, 0, 0), (99, 4, 3, 1, 0, 0), (100, 2, 0, 1, 0, 0), (101, 30, 10, 0, 2, 0), (104, 44, 1431, 111, 1, 0), (107, 0, 1, 0, 0, 1), (108, 9, 0, 0, 0, 0), (109, 4, 4, 2, 0, 0), (111, 1, 3, 1, 0, 0), (112, 1, 4, 2, 0, 0), (114, 29, 3, 136, 0, 0), (117, 2, 0, 1, 0, 0), (118, 30, 10, 0, 2, 0), (121, 1, 3, 1, 0, 0), (122, 1, 4, 2, 0, 0), (124, 44, 1703, 117, 3, 0), (127, 7, 3, 0, 0, 1), (130, 7, 4, 0, 0, -1), (133, 27, 111, 0, 0, 0), (136, 1, 1, 1, 0, 0), (137, 51, 0, 0, 0, 0)]
def e_in_14 : List (Nat × Instr × Nat) := [(0, .aload_n 0, 1), (1, .getfield 35, 3), (4, .iconst 0, 1), (5, .iconst 1, 1), (6, .aload_n 0, 1), (7, .getfield 20, 3), (10, .invokevirtual 45, 3), (13, .ishl, 1), (14, .iconst 1, 1), (15, .isub, 1), (16, .iastore, 1), (17, .iconst 0, 1), (18, .iload_n 1, 1), (19, .invokestatic 115, 3), (22, .istore_n 2, 1), (23, .iload_n 2, 1), (24, .aload_n 0, 1), (25, .getfield 24, 3), (28, .invokevirtual 45, 3), (31, .if_icmp .ge 172, 3), (34, .iload_n 2, 1), (35, .bipush 6, 2), (37, .if_icmp .ge 166, 3), (40, .iload_n 2, 1), (41, .ifCond .ne 13, 3), (44, .aload_n 0, 1), (45, .getfield 9, 3), (48, .invokevirtual 120, 3), (51, .goto 17, 3), (54, .aload_n 0, 1), (55, .aload_n 0, 1), (56, .getfield 24, 3), (59, .iload_n 2, 1), (60, .iconst 1, 1), (61, .isub, 1), (62, .invokevirtual 49, 3), (65, .invokevirtual 123, 3), (68, .istore_n 3, 1), (69, .aload_n 0, 1), (70, .aload_n 0, 1), (71, .getfield 24, 3), (74, .iload_n 2, 1), (75, .invokevirtual 49, 3), (78, .invokevirtual 123, 3), (81, .istore 4, 2), (83, .aload_n 0, 1), (84, .getfield 39, 3), (87, .iload_n 2, 1), (88, .iaload, 1), (89, .istore 5, 2), (91, .iconst 0, 1), (92, .istore 6, 2), (94, .iload_n 3, 1), (95, .iload 4, 2), (97, .if_icmp .eq 46, 3), (100, .iload 6, 2), (102, .bipush 30, 2), (104, .if_icmp .ge 39, 3), (107, .aload_n 0, 1), (108, .getfield 9, 3), (111, .iload_n 3, 1), (112, .invokevirtual 126, 3), (115, .istore_n 3, 1), (116, .iinc 6 1, 3), (119, .iload 5, 2), (121, .aload_n 0, 1), (122, .aload_n 0, 1), (123, .getfield 35, 3), (126, .iload_n 2, 1), (127, .iaload, 1), (128, .iload_n 3, 1), (129, .invokevirtual 129, 3), (132, .invokestatic 132, 3), (135, .invokestatic 115, 3), (138, .istore 5, 2), (140, .goto (-46), 3), (143, .aload_n 0, 1), (144, .getfield 35, 3), (147, .iload_n 2, 1), (148, .iconst 1, 1), (149, .iadd, 1), (150, .aload_n 0, 1), (151, .getfield 35, 3), (154, .iload_n 2, 1), (155, .iaload, 1), (156, .iconst 1, 1), (157, .aload_n 0, 1), (158, .getfield 24, 3), (161, .iload_n 2, 1), (162, .invokevirtual 49, 3), (165, .ishl, 1), (166, .iconst (-1), 1), (167, .ixor, 1), (168, .iand, 1), (169, .iastore, 1), (170, .aload_n 0, 1), (171, .getfield 39, 3), (174, .iload_n 2, 1), (175, .iconst 1, 1), (176, .iadd, 1), (177, .iload 5, 2), (179, .iastore, 1), (180, .aload_n 0, 1), (181, .getfield 42, 3), (184, .iload_n 2, 1), (185, .iconst 1, 1), (186, .iadd, 1), (187, .aload_n 0, 1), (188, .getfield 42, 3), (191, .iload_n 2, 1), (192, .iaload, 1), (193, .iload 6, 2), (195, .iadd, 1), (196, .iastore, 1), (197, .iinc 2 1, 3), (200, .goto (-177), 3), (203, .return_, 1)]
/-- EvenWheel.Emptying.measureFrom(I)V -/
def e_pg_14 : List (Nat × e_PI) := [(0, 2, 0, 1, 0, 0), (1, 30, 13, 0, 5, 0), (4, 0, 1, 0, 0, 0), (5, 0, 1, 0, 0, 1), (6, 2, 0, 1, 0, 0), (7, 30, 9, 0, 1, 0), (10, 44, 1431, 111, 1, 0), (13, 14, 0, 0, 0, 0), (14, 0, 1, 0, 0, 1), (15, 9, 0, 0, 0, 0), (16, 33, 0, 0, 0, 0), (17, 0, 1, 0, 0, 0), (18, 1, 1, 1, 0, 0), (19, 44, 1727, 265, 2, 0), (22, 4, 2, 1, 0, 0), (23, 1, 2, 1, 0, 0), (24, 2, 0, 1, 0, 0), (25, 30, 10, 0, 2, 0), (28, 44, 1431, 111, 1, 0), (31, 29, 3, 203, 0, 0), (34, 1, 2, 1, 0, 0), (35, 0, 2, 0, 0, 6), (37, 29, 3, 203, 0, 0), (40, 1, 2, 1, 0, 0), (41, 28, 1, 54, 0, 0), (44, 2, 0, 1, 0, 0), (45, 30, 8, 0, 0, 0), (48, 44, 1737, 134, 1, 0), (51, 27, 68, 0, 0, 0), (54, 2, 0, 1, 0, 0), (55, 2, 0, 1, 0, 0), (56, 30, 10, 0, 2, 0), (59, 1, 2, 1, 0, 0), (60, 0, 1, 0, 0, 1), (61, 9, 0, 0, 0, 0), (62, 44, 1447, 113, 2, 0), (65, 44, 1744, 15, 2, 0), (68, 4, 3, 1, 0, 0), (69, 2, 0, 1, 0, 0), (70, 2, 0, 1, 0, 0), (71, 30, 10, 0, 2, 0), (74, 1, 2, 1, 0, 0), (75, 44, 1447, 113, 2, 0), (78, 44, 1744, 15, 2, 0), (81, 4, 4, 2, 0, 0), (83, 2, 0, 1, 0, 0), (84, 30, 14, 0, 6, 0), (87, 1, 2, 1, 0, 0), (88, 32, 0, 0, 0, 0), (89, 4, 5, 2, 0, 0), (91, 0, 1, 0, 0, 0), (92, 4, 6, 2, 0, 0), (94, 1, 3, 1, 0, 0), (95, 1, 4, 2, 0, 0), (97, 29, 0, 143, 0, 0), (100, 1, 6, 2, 0, 0), (102, 0, 2, 0, 0, 30), (104, 29, 3, 143, 0, 0), (107, 2, 0, 1, 0, 0), (108, 30, 8, 0, 0, 0), (111, 1, 3, 1, 0, 0), (112, 44, 1769, 136, 2, 0), (115, 4, 3, 1, 0, 0), (116, 7, 6, 0, 0, 1), (119, 1, 5, 2, 0, 0), (121, 2, 0, 1, 0, 0), (122, 2, 0, 1, 0, 0), (123, 30, 13, 0, 5, 0), (126, 1, 2, 1, 0, 0), (127, 32, 0, 0, 0, 0), (128, 1, 3, 1, 0, 0), (129, 44, 1776, 7, 3, 0), (132, 44, 1807, 264, 1, 0), (135, 44, 1727, 265, 2, 0), (138, 4, 5, 2, 0, 0), (140, 27, 94, 0, 0, 0), (143, 2, 0, 1, 0, 0), (144, 30, 13, 0, 5, 0), (147, 1, 2, 1, 0, 0), (148, 0, 1, 0, 0, 1), (149, 8, 0, 0, 0, 0), (150, 2, 0, 1, 0, 0), (151, 30, 13, 0, 5, 0), (154, 1, 2, 1, 0, 0), (155, 32, 0, 0, 0, 0), (156, 0, 1, 0, 0, 1), (157, 2, 0, 1, 0, 0), (158, 30, 10, 0, 2, 0), (161, 1, 2, 1, 0, 0), (162, 44, 1447, 113, 2, 0), (165, 14, 0, 0, 0, 0), (166, 0, 1, 0, 0, -1), (167, 18, 0, 0, 0, 0), (168, 16, 0, 0, 0, 0), (169, 33, 0, 0, 0, 0), (170, 2, 0, 1, 0, 0), (171, 30, 14, 0, 6, 0), (174, 1, 2, 1, 0, 0), (175, 0, 1, 0, 0, 1), (176, 8, 0, 0, 0, 0), (177, 1, 5, 2, 0, 0), (179, 33, 0, 0, 0, 0), (180, 2, 0, 1, 0, 0), (181, 30, 15, 0, 7, 0), (184, 1, 2, 1, 0, 0), (185, 0, 1, 0, 0, 1), (186, 8, 0, 0, 0, 0), (187, 2, 0, 1, 0, 0), (188, 30, 15, 0, 7, 0), (191, 1, 2, 1, 0, 0), (192, 32, 0, 0, 0, 0), (193, 1, 6, 2, 0, 0), (195, 8, 0, 0, 0, 0), (196, 33, 0, 0, 0, 0), (197, 7, 2, 0, 0, 1), (200, 27, 23, 0, 0, 0), (203, 50, 0, 0, 0, 0)]
def e_in_15 : List (Nat × Instr × Nat) := [(0, .aload_n 0, 1), (1, .getfield 9, 3), (4, .aload_n 0, 1), (5, .getfield 20, 3), (8, .iload_n 1, 1), (9, .invokevirtual 49, 3), (12, .invokevirtual 135, 3), (15, .ireturn, 1)]
/-- EvenWheel.Emptying.turnFor(I)I -/
def e_pg_15 : List (Nat × e_PI) := [(0, 2, 0, 1, 0, 0), (1, 30, 8, 0, 0, 0), (4, 2, 0, 1, 0, 0), (5, 30, 9, 0, 1, 0), (8, 1, 1, 1, 0, 0), (9, 44, 1447, 113, 2, 0), (12, 44, 1817, 140, 2, 0), (15, 51, 0, 0, 0, 0)]
def e_in_16 : List (Nat × Instr × Nat) := [(0, .iconst 1, 1), (1, .aload_n 0, 1), (2, .getfield 20, 3), (5, .invokevirtual 45, 3), (8, .ishl, 1), (9, .iconst 1, 1), (10, .isub, 1), (11, .istore_n 2, 1), (12, .iload_n 1, 1), (13, .istore_n 3, 1), (14, .aload_n 0, 1), (15, .getfield 24, 3), (18, .invokevirtual 45, 3), (21, .iconst 1, 1), (22, .isub, 1), (23, .istore 4, 2), (25, .iload 4, 2), (27, .ifCond .lt 63, 3), (30, .iload_n 3, 1), (31, .ifCond .ge 7, 3), (34, .iconst (-1), 1), (35, .goto 14, 3), (38, .aload_n 0, 1), (39, .getfield 20, 3), (42, .iload_n 3, 1), (43, .bipush 30, 2), (45, .irem, 1), (46, .invokevirtual 136, 3), (49, .istore 5, 2), (51, .iload 5, 2), (53, .iconst (-1), 1), (54, .if_icmp .ne 5, 3), (57, .iconst 0, 1), (58, .ireturn, 1), (59, .aload_n 0, 1), (60, .getfield 24, 3), (63, .iload 4, 2), (65, .iload 5, 2), (67, .invokevirtual 139, 3), (70, .iload_n 2, 1), (71, .iconst 1, 1), (72, .iload 5, 2), (74, .ishl, 1), (75, .iconst (-1), 1), (76, .ixor, 1), (77, .iand, 1), (78, .istore_n 2, 1), (79, .iload_n 3, 1), (80, .bipush 30, 2), (82, .idiv, 1), (83, .istore_n 3, 1), (84, .iinc 4 (-1), 3), (87, .goto (-62), 3), (90, .iload_n 3, 1), (91, .ifCond .ne 11, 3), (94, .iload_n 2, 1), (95, .ifCond .ne 7, 3), (98, .iconst 1, 1), (99, .goto 4, 3), (102, .iconst 0, 1), (103, .ireturn, 1)]
/-- EvenWheel.Emptying.takeFigures(I)Z -/
def e_pg_16 : List (Nat × e_PI) := [(0, 0, 1, 0, 0, 1), (1, 2, 0, 1, 0, 0), (2, 30, 9, 0, 1, 0), (5, 44, 1431, 111, 1, 0), (8, 14, 0, 0, 0, 0), (9, 0, 1, 0, 0, 1), (10, 9, 0, 0, 0, 0), (11, 4, 2, 1, 0, 0), (12, 1, 1, 1, 0, 0), (13, 4, 3, 1, 0, 0), (14, 2, 0, 1, 0, 0), (15, 30, 10, 0, 2, 0), (18, 44, 1431, 111, 1, 0), (21, 0, 1, 0, 0, 1), (22, 9, 0, 0, 0, 0), (23, 4, 4, 2, 0, 0), (25, 1, 4, 2, 0, 0), (27, 28, 2, 90, 0, 0), (30, 1, 3, 1, 0, 0), (31, 28, 3, 38, 0, 0), (34, 0, 1, 0, 0, -1), (35, 27, 49, 0, 0, 0), (38, 2, 0, 1, 0, 0), (39, 30, 9, 0, 1, 0), (42, 1, 3, 1, 0, 0), (43, 0, 2, 0, 0, 30), (45, 13, 0, 0, 0, 0), (46, 44, 1831, 114, 2, 0), (49, 4, 5, 2, 0, 0), (51, 1, 5, 2, 0, 0), (53, 0, 1, 0, 0, -1), (54, 29, 1, 59, 0, 0), (57, 0, 1, 0, 0, 0), (58, 52, 0, 0, 0, 0), (59, 2, 0, 1, 0, 0), (60, 30, 10, 0, 2, 0), (63, 1, 4, 2, 0, 0), (65, 1, 5, 2, 0, 0), (67, 44, 1847, 116, 3, 0), (70, 1, 2, 1, 0, 0), (71, 0, 1, 0, 0, 1), (72, 1, 5, 2, 0, 0), (74, 14, 0, 0, 0, 0), (75, 0, 1, 0, 0, -1), (76, 18, 0, 0, 0, 0), (77, 16, 0, 0, 0, 0), (78, 4, 2, 1, 0, 0), (79, 1, 3, 1, 0, 0), (80, 0, 2, 0, 0, 30), (82, 12, 0, 0, 0, 0), (83, 4, 3, 1, 0, 0), (84, 7, 4, 0, 0, -1), (87, 27, 25, 0, 0, 0), (90, 1, 3, 1, 0, 0), (91, 28, 1, 102, 0, 0), (94, 1, 2, 1, 0, 0), (95, 28, 1, 102, 0, 0), (98, 0, 1, 0, 0, 1), (99, 27, 103, 0, 0, 0), (102, 0, 1, 0, 0, 0), (103, 52, 0, 0, 0, 0)]
def e_in_17 : List (Nat × Instr × Nat) := [(0, .aload_n 0, 1), (1, .iconst 0, 1), (2, .invokevirtual 89, 3), (5, .aload_n 0, 1), (6, .invokevirtual 101, 3), (9, .ireturn, 1)]
/-- EvenWheel.Emptying.costAsItStands()I -/
def e_pg_17 : List (Nat × e_PI) := [(0, 2, 0, 1, 0, 0), (1, 0, 1, 0, 0, 0), (2, 44, 1584, 14, 2, 0), (5, 2, 0, 1, 0, 0), (6, 44, 1648, 11, 1, 0), (9, 51, 0, 0, 0, 0)]
def e_in_18 : List (Nat × Instr × Nat) := [(0, .aload_n 0, 1), (1, .invokespecial 3, 3), (4, .aload_n 0, 1), (5, .aload_n 1, 1), (6, .putfield 9, 3), (9, .aload_n 0, 1), (10, .new 15, 3), (13, .dup, 1), (14, .bipush 40, 2), (16, .invokespecial 17, 3), (19, .putfield 20, 3), (22, .aload_n 0, 1), (23, .new 15, 3), (26, .dup, 1), (27, .bipush 40, 2), (29, .invokespecial 17, 3), (32, .putfield 24, 3), (35, .return_, 1)]
/-- EvenWheel.Notes.init(LEvenWheel.Wheel )V -/
def e_pg_18 : List (Nat × e_PI) := [(0, 2, 0, 1, 0, 0), (1, 46, 116, 0, 0, 0), (4, 2, 0, 1, 0, 0), (5, 2, 1, 1, 0, 0), (6, 31, 19, 1, 0, 2), (9, 2, 0, 1, 0, 0), (10, 43, 9, 7, 0, 0), (13, 24, 0, 0, 0, 0), (14, 0, 2, 0, 0, 40), (16, 44, 1879, 110, 2, 0), (19, 31, 20, 1, 1, 2), (22, 2, 0, 1, 0, 0), (23, 43, 9, 7, 0, 0), (26, 24, 0, 0, 0, 0), (27, 0, 2, 0, 0, 40), (29, 44, 1879, 110, 2, 0), (32, 31, 21, 1, 2, 2), (35, 50, 0, 0, 0, 0)]
def e_in_19 : List (Nat × Instr × Nat) := [(0, .iload_n 0, 1), (1, .iconst 2, 1), (2, .if_icmp .ne 13, 3), (5, .iload_n 1, 1), (6, .ifCond .ne 7, 3), (9, .iconst 1, 1), (10, .goto 4, 3), (13, .iconst 0, 1), (14, .ireturn, 1), (15, .iload_n 0, 1), (16, .ifCond .eq 8, 3), (19, .iload_n 0, 1), (20, .iconst 1, 1), (21, .if_icmp .ne 17, 3), (24, .iload_n 1, 1), (25, .ifCond .lt 13, 3), (28, .iload_n 1, 1), (29, .bipush 36, 2), (31, .if_icmp .gt 7, 3), (34, .iconst 1, 1), (35, .goto 4, 3), (38, .iconst 0, 1), (39, .ireturn, 1)]
/-- EvenWheel.Notes.allows(II)Z -/
def e_pg_19 : List (Nat × e_PI) := [(0, 1, 0, 1, 0, 0), (1, 0, 1, 0, 0, 2), (2, 29, 1, 15, 0, 0), (5, 1, 1, 1, 0, 0), (6, 28, 1, 13, 0, 0), (9, 0, 1, 0, 0, 1), (10, 27, 14, 0, 0, 0), (13, 0, 1, 0, 0, 0), (14, 52, 0, 0, 0, 0), (15, 1, 0, 1, 0, 0), (16, 28, 0, 24, 0, 0), (19, 1, 0, 1, 0, 0), (20, 0, 1, 0, 0, 1), (21, 29, 1, 38, 0, 0), (24, 1, 1, 1, 0, 0), (25, 28, 2, 38, 0, 0), (28, 1, 1, 1, 0, 0), (29, 0, 2, 0, 0, 36), (31, 29, 4, 38, 0, 0), (34, 0, 1, 0, 0, 1), (35, 27, 39, 0, 0, 0), (38, 0, 1, 0, 0, 0), (39, 52, 0, 0, 0, 0)]
def e_in_20 : List (Nat × Instr × Nat) := [(0, .aload_n 0, 1), (1, .getfield 20, 3), (4, .invokevirtual 27, 3), (7, .istore_n 1, 1), (8, .aload_n 0, 1), (9, .getfield 20, 3), (12, .invokevirtual 31, 3), (15, .aload_n 0, 1), (16, .getfield 24, 3), (19, .invokevirtual 31, 3), (22, .iload_n 1, 1), (23, .ireturn, 1)]
/-- EvenWheel.Notes.startAnew()I -/
def e_pg_20 : List (Nat × e_PI) := [(0, 2, 0, 1, 0, 0), (1, 30, 20, 1, 1, 0), (4, 44, 1895, 111, 1, 0), (7, 4, 1, 1, 0, 0), (8, 2, 0, 1, 0, 0), (9, 30, 20, 1, 1, 0), (12, 44, 1911, 119, 1, 0), (15, 2, 0, 1, 0, 0), (16, 30, 21, 1, 2, 0), (19, 44, 1911, 119, 1, 0), (22, 1, 1, 1, 0, 0), (23, 51, 0, 0, 0, 0)]
def e_in_21 : List (Nat × Instr × Nat) := [(0, .aload_n 0, 1), (1, .getfield 20, 3), (4, .invokevirtual 34, 3), (7, .ifCond .ne 6, 3), (10, .bipush (-104), 2), (12, .ireturn, 1), (13, .aload_n 0, 1), (14, .getfield 20, 3), (17, .iload_n 1, 1), (18, .invokevirtual 38, 3), (21, .aload_n 0, 1), (22, .getfield 24, 3), (25, .iload_n 2, 1), (26, .invokevirtual 38, 3), (29, .aload_n 0, 1), (30, .getfield 20, 3), (33, .invokevirtual 27, 3), (36, .ireturn, 1)]
/-- EvenWheel.Notes.write(II)I -/
def e_pg_21 : List (Nat × e_PI) := [(0, 2, 0, 1, 0, 0), (1, 30, 20, 1, 1, 0), (4, 44, 1927, 112, 1, 0), (7, 28, 1, 13, 0, 0), (10, 0, 2, 0, 0, -104), (12, 51, 0, 0, 0, 0), (13, 2, 0, 1, 0, 0), (14, 30, 20, 1, 1, 0), (17, 1, 1, 1, 0, 0), (18, 44, 1943, 115, 2, 0), (21, 2, 0, 1, 0, 0), (22, 30, 21, 1, 2, 0), (25, 1, 2, 1, 0, 0), (26, 44, 1943, 115, 2, 0), (29, 2, 0, 1, 0, 0), (30, 30, 20, 1, 1, 0), (33, 44, 1895, 111, 1, 0), (36, 51, 0, 0, 0, 0)]
def e_in_22 : List (Nat × Instr × Nat) := [(0, .bipush 6, 2), (2, .aload_n 0, 1), (3, .getfield 9, 3), (6, .invokevirtual 41, 3), (9, .imul, 1), (10, .ireturn, 1)]
/-- EvenWheel.Notes.mostUpEver()I -/
def e_pg_22 : List (Nat × e_PI) := [(0, 0, 2, 0, 0, 6), (2, 2, 0, 1, 0, 0), (3, 30, 19, 1, 0, 0), (6, 44, 1961, 133, 1, 0), (9, 10, 0, 0, 0, 0), (10, 51, 0, 0, 0, 0)]
def e_in_23 : List (Nat × Instr × Nat) := [(0, .iload_n 1, 1), (1, .ifCond .lt 15, 3), (4, .iload_n 1, 1), (5, .aload_n 0, 1), (6, .invokevirtual 44, 3), (9, .if_icmp .gt 7, 3), (12, .iconst 1, 1), (13, .goto 4, 3), (16, .iconst 0, 1), (17, .ireturn, 1)]
/-- EvenWheel.Notes.mayBeUp(I)Z -/
def e_pg_23 : List (Nat × e_PI) := [(0, 1, 1, 1, 0, 0), (1, 28, 2, 16, 0, 0), (4, 1, 1, 1, 0, 0), (5, 2, 0, 1, 0, 0), (6, 44, 1969, 22, 1, 0), (9, 29, 4, 16, 0, 0), (12, 0, 1, 0, 0, 1), (13, 27, 17, 0, 0, 0), (16, 0, 1, 0, 0, 0), (17, 52, 0, 0, 0, 0)]
def e_in_24 : List (Nat × Instr × Nat) := [(0, .aload_n 0, 1), (1, .getfield 47, 3), (4, .ireturn, 1)]
/-- EvenWheel.Notes.leastUp()I -/
def e_pg_24 : List (Nat × e_PI) := [(0, 2, 0, 1, 0, 0), (1, 30, 22, 1, 3, 0), (4, 51, 0, 0, 0, 0)]
def e_in_25 : List (Nat × Instr × Nat) := [(0, .aload_n 0, 1), (1, .getfield 51, 3), (4, .ireturn, 1)]
/-- EvenWheel.Notes.mostUp()I -/
def e_pg_25 : List (Nat × e_PI) := [(0, 2, 0, 1, 0, 0), (1, 30, 23, 1, 4, 0), (4, 51, 0, 0, 0, 0)]
def e_in_26 : List (Nat × Instr × Nat) := [(0, .aload_n 0, 1), (1, .iload_n 1, 1), (2, .putfield 47, 3), (5, .aload_n 0, 1), (6, .iload_n 1, 1), (7, .putfield 51, 3), (10, .iconst 0, 1), (11, .istore_n 2, 1), (12, .iload_n 2, 1), (13, .aload_n 0, 1), (14, .getfield 20, 3), (17, .invokevirtual 27, 3), (20, .if_icmp .ge 34, 3), (23, .aload_n 0, 1), (24, .aload_n 0, 1), (25, .getfield 20, 3), (28, .iload_n 2, 1), (29, .invokevirtual 54, 3), (32, .aload_n 0, 1), (33, .getfield 24, 3), (36, .iload_n 2, 1), (37, .invokevirtual 54, 3), (40, .invokevirtual 58, 3), (43, .ifCond .ne 5, 3), (46, .iconst 0, 1), (47, .ireturn, 1), (48, .iinc 2 1, 3), (51, .goto (-39), 3), (54, .iconst 1, 1), (55, .ireturn, 1)]
/-- EvenWheel.Notes.follow(I)Z -/
def e_pg_26 : List (Nat × e_PI) := [(0, 2, 0, 1, 0, 0), (1, 1, 1, 1, 0, 0), (2, 31, 22, 1, 3, 0), (5, 2, 0, 1, 0, 0), (6, 1, 1, 1, 0, 0), (7, 31, 23, 1, 4, 0), (10, 0, 1, 0, 0, 0), (11, 4, 2, 1, 0, 0), (12, 1, 2, 1, 0, 0), (13, 2, 0, 1, 0, 0), (14, 30, 20, 1, 1, 0), (17, 44, 1895, 111, 1, 0), (20, 29, 3, 54, 0, 0), (23, 2, 0, 1, 0, 0), (24, 2, 0, 1, 0, 0), (25, 30, 20, 1, 1, 0), (28, 1, 2, 1, 0, 0), (29, 44, 1991, 113, 2, 0), (32, 2, 0, 1, 0, 0), (33, 30, 21, 1, 2, 0), (36, 1, 2, 1, 0, 0), (37, 44, 1991, 113, 2, 0), (40, 44, 2001, 29, 3, 0), (43, 28, 1, 48, 0, 0), (46, 0, 1, 0, 0, 0), (47, 52, 0, 0, 0, 0), (48, 7, 2, 0, 0, 1), (51, 27, 12, 0, 0, 0), (54, 0, 1, 0, 0, 1), (55, 52, 0, 0, 0, 0)]
def e_in_27 : List (Nat × Instr × Nat) := [(0, .aload_n 0, 1), (1, .iconst 0, 1), (2, .putfield 47, 3), (5, .aload_n 0, 1), (6, .aload_n 0, 1), (7, .invokevirtual 44, 3), (10, .putfield 51, 3), (13, .aload_n 0, 1), (14, .getfield 20, 3), (17, .invokevirtual 27, 3), (20, .iconst 1, 1), (21, .isub, 1), (22, .istore_n 1, 1), (23, .iload_n 1, 1), (24, .ifCond .lt 37, 3), (27, .aload_n 0, 1), (28, .aload_n 0, 1), (29, .getfield 20, 3), (32, .iload_n 1, 1), (33, .invokevirtual 54, 3), (36, .invokestatic 62, 3), (39, .aload_n 0, 1), (40, .getfield 24, 3), (43, .iload_n 1, 1), (44, .invokevirtual 54, 3), (47, .invokevirtual 58, 3), (50, .ifCond .ne 5, 3), (53, .iconst 0, 1), (54, .ireturn, 1), (55, .iinc 1 (-1), 3), (58, .goto (-35), 3), (61, .aload_n 0, 1), (62, .getfield 51, 3), (65, .aload_n 0, 1), (66, .getfield 47, 3), (69, .isub, 1), (70, .iconst 1, 1), (71, .iadd, 1), (72, .ireturn, 1)]
/-- EvenWheel.Notes.countBegins()I -/
def e_pg_27 : List (Nat × e_PI) := [(0, 2, 0, 1, 0, 0), (1, 0, 1, 0, 0, 0), (2, 31, 22, 1, 3, 0), (5, 2, 0, 1, 0, 0), (6, 2, 0, 1, 0, 0), (7, 44, 1969, 22, 1, 0), (10, 31, 23, 1, 4, 0), (13, 2, 0, 1, 0, 0), (14, 30, 20, 1, 1, 0), (17, 44, 1895, 111, 1, 0), (20, 0, 1, 0, 0, 1), (21, 9, 0, 0, 0, 0), (22, 4, 1, 1, 0, 0), (23, 1, 1, 1, 0, 0), (24, 28, 2, 61, 0, 0), (27, 2, 0, 1, 0, 0), (28, 2, 0, 1, 0, 0), (29, 30, 20, 1, 1, 0), (32, 1, 1, 1, 0, 0), (33, 44, 1991, 113, 2, 0), (36, 44, 2031, 28, 1, 0), (39, 2, 0, 1, 0, 0), (40, 30, 21, 1, 2, 0), (43, 1, 1, 1, 0, 0), (44, 44, 1991, 113, 2, 0), (47, 44, 2001, 29, 3, 0), (50, 28, 1, 55, 0, 0), (53, 0, 1, 0, 0, 0), (54, 51, 0, 0, 0, 0), (55, 7, 1, 0, 0, -1), (58, 27, 23, 0, 0, 0), (61, 2, 0, 1, 0, 0), (62, 30, 23, 1, 4, 0), (65, 2, 0, 1, 0, 0), (66, 30, 22, 1, 3, 0), (69, 9, 0, 0, 0, 0), (70, 0, 1, 0, 0, 1), (71, 8, 0, 0, 0, 0), (72, 51, 0, 0, 0, 0)]
def e_in_28 : List (Nat × Instr × Nat) := [(0, .iload_n 0, 1), (1, .iconst 2, 1), (2, .if_icmp .ne 5, 3), (5, .iconst 2, 1), (6, .ireturn, 1), (7, .iload_n 0, 1), (8, .ifCond .ne 7, 3), (11, .iconst 1, 1), (12, .goto 4, 3), (15, .iconst 0, 1), (16, .ireturn, 1)]
/-- EvenWheel.Notes.turnedBack(I)I -/
def e_pg_28 : List (Nat × e_PI) := [(0, 1, 0, 1, 0, 0), (1, 0, 1, 0, 0, 2), (2, 29, 1, 7, 0, 0), (5, 0, 1, 0, 0, 2), (6, 51, 0, 0, 0, 0), (7, 1, 0, 1, 0, 0), (8, 28, 1, 15, 0, 0), (11, 0, 1, 0, 0, 1), (12, 27, 16, 0, 0, 0), (15, 0, 1, 0, 0, 0), (16, 51, 0, 0, 0, 0)]
def e_in_29 : List (Nat × Instr × Nat) := [(0, .aload_n 0, 1), (1, .dup, 1), (2, .getfield 47, 3), (5, .iload_n 1, 1), (6, .ifCond .ne 7, 3), (9, .iload_n 2, 1), (10, .goto 15, 3), (13, .iload_n 1, 1), (14, .iconst 1, 1), (15, .if_icmp .ne 8, 3), (18, .iload_n 2, 1), (19, .ineg, 1), (20, .goto 5, 3), (23, .bipush (-36), 2), (25, .iadd, 1), (26, .putfield 47, 3), (29, .aload_n 0, 1), (30, .dup, 1), (31, .getfield 51, 3), (34, .iload_n 1, 1), (35, .ifCond .ne 7, 3), (38, .iload_n 2, 1), (39, .goto 15, 3), (42, .iload_n 1, 1), (43, .iconst 1, 1), (44, .if_icmp .ne 8, 3), (47, .iload_n 2, 1), (48, .ineg, 1), (49, .goto 5, 3), (52, .bipush 36, 2), (54, .iadd, 1), (55, .putfield 51, 3), (58, .aload_n 0, 1), (59, .iconst 0, 1), (60, .aload_n 0, 1), (61, .getfield 47, 3), (64, .invokestatic 65, 3), (67, .putfield 47, 3), (70, .aload_n 0, 1), (71, .aload_n 0, 1), (72, .invokevirtual 44, 3), (75, .aload_n 0, 1), (76, .getfield 51, 3), (79, .invokestatic 71, 3), (82, .putfield 51, 3), (85, .aload_n 0, 1), (86, .getfield 47, 3), (89, .aload_n 0, 1), (90, .getfield 51, 3), (93, .if_icmp .gt 7, 3), (96, .iconst 1, 1), (97, .goto 4, 3), (100, .iconst 0, 1), (101, .ireturn, 1)]
/-- EvenWheel.Notes.pass(II)Z -/
def e_pg_29 : List (Nat × e_PI) := [(0, 2, 0, 1, 0, 0), (1, 24, 0, 0, 0, 0), (2, 30, 22, 1, 3, 0), (5, 1, 1, 1, 0, 0), (6, 28, 1, 13, 0, 0), (9, 1, 2, 1, 0, 0), (10, 27, 25, 0, 0, 0), (13, 1, 1, 1, 0, 0), (14, 0, 1, 0, 0, 1), (15, 29, 1, 23, 0, 0), (18, 1, 2, 1, 0, 0), (19, 11, 0, 0, 0, 0), (20, 27, 25, 0, 0, 0), (23, 0, 2, 0, 0, -36), (25, 8, 0, 0, 0, 0), (26, 31, 22, 1, 3, 0), (29, 2, 0, 1, 0, 0), (30, 24, 0, 0, 0, 0), (31, 30, 23, 1, 4, 0), (34, 1, 1, 1, 0, 0), (35, 28, 1, 42, 0, 0), (38, 1, 2, 1, 0, 0), (39, 27, 54, 0, 0, 0), (42, 1, 1, 1, 0, 0), (43, 0, 1, 0, 0, 1), (44, 29, 1, 52, 0, 0), (47, 1, 2, 1, 0, 0), (48, 11, 0, 0, 0, 0), (49, 27, 54, 0, 0, 0), (52, 0, 2, 0, 0, 36), (54, 8, 0, 0, 0, 0), (55, 31, 23, 1, 4, 0), (58, 2, 0, 1, 0, 0), (59, 0, 1, 0, 0, 0), (60, 2, 0, 1, 0, 0), (61, 30, 22, 1, 3, 0), (64, 44, 2047, 265, 2, 0), (67, 31, 22, 1, 3, 0), (70, 2, 0, 1, 0, 0), (71, 2, 0, 1, 0, 0), (72, 44, 1969, 22, 1, 0), (75, 2, 0, 1, 0, 0), (76, 30, 23, 1, 4, 0), (79, 44, 2063, 266, 2, 0), (82, 31, 23, 1, 4, 0), (85, 2, 0, 1, 0, 0), (86, 30, 22, 1, 3, 0), (89, 2, 0, 1, 0, 0), (90, 30, 23, 1, 4, 0), (93, 29, 4, 100, 0, 0), (96, 0, 1, 0, 0, 1), (97, 27, 101, 0, 0, 0), (100, 0, 1, 0, 0, 0), (101, 52, 0, 0, 0, 0)]
def e_in_30 : List (Nat × Instr × Nat) := [(0, .iconst 0, 1), (1, .istore_n 3, 1), (2, .iload_n 3, 1), (3, .aload_n 0, 1), (4, .getfield 20, 3), (7, .invokevirtual 27, 3), (10, .if_icmp .ge 35, 3), (13, .lload_n 1, 1), (14, .aload_n 0, 1), (15, .getfield 20, 3), (18, .iload_n 3, 1), (19, .invokevirtual 54, 3), (22, .i2l, 1), (23, .invokestatic 74, 3), (26, .aload_n 0, 1), (27, .getfield 24, 3), (30, .iload_n 3, 1), (31, .invokevirtual 54, 3), (34, .i2l, 1), (35, .invokestatic 74, 3), (38, .lstore_n 1, 1), (39, .iinc 3 1, 3), (42, .goto (-40), 3), (45, .lload_n 1, 1), (46, .lreturn, 1)]
/-- EvenWheel.Notes.mixInto(J)J -/
def e_pg_30 : List (Nat × e_PI) := [(0, 0, 1, 0, 0, 0), (1, 4, 3, 1, 0, 0), (2, 1, 3, 1, 0, 0), (3, 2, 0, 1, 0, 0), (4, 30, 20, 1, 1, 0), (7, 44, 1895, 111, 1, 0), (10, 29, 3, 45, 0, 0), (13, 3, 1, 1, 0, 0), (14, 2, 0, 1, 0, 0), (15, 30, 20, 1, 1, 0), (18, 1, 3, 1, 0, 0), (19, 44, 1991, 113, 2, 0), (22, 19, 0, 0, 0, 0), (23, 44, 2079, 191, 2, 0), (26, 2, 0, 1, 0, 0), (27, 30, 21, 1, 2, 0), (30, 1, 3, 1, 0, 0), (31, 44, 1991, 113, 2, 0), (34, 19, 0, 0, 0, 0), (35, 44, 2079, 191, 2, 0), (38, 6, 1, 1, 0, 0), (39, 7, 3, 0, 0, 1), (42, 27, 2, 0, 0, 0), (45, 3, 1, 1, 0, 0), (46, 53, 0, 0, 0, 0)]
def e_in_31 : List (Nat × Instr × Nat) := [(0, .aload_n 0, 1), (1, .invokespecial 3, 3), (4, .aload_n 0, 1), (5, .new 9, 3), (8, .dup, 1), (9, .sipush 200, 3), (12, .invokespecial 11, 3), (15, .putfield 14, 3), (18, .aload_n 0, 1), (19, .new 9, 3), (22, .dup, 1), (23, .sipush 200, 3), (26, .invokespecial 11, 3), (29, .putfield 20, 3), (32, .aload_n 0, 1), (33, .new 9, 3), (36, .dup, 1), (37, .sipush 200, 3), (40, .invokespecial 11, 3), (43, .putfield 23, 3), (46, .aload_n 0, 1), (47, .new 9, 3), (50, .dup, 1), (51, .sipush 200, 3), (54, .invokespecial 11, 3), (57, .putfield 26, 3), (60, .aload_n 0, 1), (61, .new 9, 3), (64, .dup, 1), (65, .sipush 200, 3), (68, .invokespecial 11, 3), (71, .putfield 29, 3), (74, .aload_n 0, 1), (75, .new 9, 3), (78, .dup, 1), (79, .sipush 200, 3), (82, .invokespecial 11, 3), (85, .putfield 32, 3), (88, .return_, 1)]
/-- EvenWheel.Parties.init()V -/
def e_pg_31 : List (Nat × e_PI) := [(0, 2, 0, 1, 0, 0), (1, 46, 130, 0, 0, 0), (4, 2, 0, 1, 0, 0), (5, 43, 10, 7, 0, 0), (8, 24, 0, 0, 0, 0), (9, 0, 3, 0, 0, 200), (12, 44, 2103, 110, 2, 0), (15, 31, 24, 2, 0, 2), (18, 2, 0, 1, 0, 0), (19, 43, 10, 7, 0, 0), (22, 24, 0, 0, 0, 0), (23, 0, 3, 0, 0, 200), (26, 44, 2103, 110, 2, 0), (29, 31, 25, 2, 1, 2), (32, 2, 0, 1, 0, 0), (33, 43, 10, 7, 0, 0), (36, 24, 0, 0, 0, 0), (37, 0, 3, 0, 0, 200), (40, 44, 2103, 110, 2, 0), (43, 31, 26, 2, 2, 2), (46, 2, 0, 1, 0, 0), (47, 43, 10, 7, 0, 0), (50, 24, 0, 0, 0, 0), (51, 0, 3, 0, 0, 200), (54, 44, 2103, 110, 2, 0), (57, 31, 27, 2, 3, 2), (60, 2, 0, 1, 0, 0), (61, 43, 10, 7, 0, 0), (64, 24, 0, 0, 0, 0), (65, 0, 3, 0, 0, 200), (68, 44, 2103, 110, 2, 0), (71, 31, 28, 2, 4, 2), (74, 2, 0, 1, 0, 0), (75, 43, 10, 7, 0, 0), (78, 24, 0, 0, 0, 0), (79, 0, 3, 0, 0, 200), (82, 44, 2103, 110, 2, 0), (85, 31, 29, 2, 5, 2), (88, 50, 0, 0, 0, 0)]
def e_in_32 : List (Nat × Instr × Nat) := [(0, .iload_n 0, 1), (1, .iconst 1, 1), (2, .if_icmp .lt 45, 3), (5, .iload_n 0, 1), (6, .bipush 6, 2), (8, .if_icmp .gt 39, 3), (11, .iload_n 1, 1), (12, .invokestatic 35, 3), (15, .ifCond .eq 32, 3), (18, .iload_n 2, 1), (19, .invokestatic 35, 3), (22, .ifCond .eq 25, 3), (25, .iload_n 3, 1), (26, .invokestatic 35, 3), (29, .ifCond .eq 18, 3), (32, .iload 4, 2), (34, .ifCond .lt 13, 3), (37, .iload 4, 2), (39, .iconst 3, 1), (40, .if_icmp .gt 7, 3), (43, .iconst 1, 1), (44, .goto 4, 3), (47, .iconst 0, 1), (48, .ireturn, 1)]
/-- EvenWheel.Parties.allows(IIIII)Z -/
def e_pg_32 : List (Nat × e_PI) := [(0, 1, 0, 1, 0, 0), (1, 0, 1, 0, 0, 1), (2, 29, 2, 47, 0, 0), (5, 1, 0, 1, 0, 0), (6, 0, 2, 0, 0, 6), (8, 29, 4, 47, 0, 0), (11, 1, 1, 1, 0, 0), (12, 44, 2127, 33, 1, 0), (15, 28, 0, 47, 0, 0), (18, 1, 2, 1, 0, 0), (19, 44, 2127, 33, 1, 0), (22, 28, 0, 47, 0, 0), (25, 1, 3, 1, 0, 0), (26, 44, 2127, 33, 1, 0), (29, 28, 0, 47, 0, 0), (32, 1, 4, 2, 0, 0), (34, 28, 2, 47, 0, 0), (37, 1, 4, 2, 0, 0), (39, 0, 1, 0, 0, 3), (40, 29, 4, 47, 0, 0), (43, 0, 1, 0, 0, 1), (44, 27, 48, 0, 0, 0), (47, 0, 1, 0, 0, 0), (48, 52, 0, 0, 0, 0)]
def e_in_33 : List (Nat × Instr × Nat) := [(0, .iload_n 0, 1), (1, .iconst 5, 1), (2, .if_icmp .lt 14, 3), (5, .iload_n 0, 1), (6, .sipush 150, 3), (9, .if_icmp .gt 7, 3), (12, .iconst 1, 1), (13, .goto 4, 3), (16, .iconst 0, 1), (17, .ireturn, 1)]
/-- EvenWheel.Parties.weighs(I)Z -/
def e_pg_33 : List (Nat × e_PI) := [(0, 1, 0, 1, 0, 0), (1, 0, 1, 0, 0, 5), (2, 29, 2, 16, 0, 0), (5, 1, 0, 1, 0, 0), (6, 0, 3, 0, 0, 150), (9, 29, 4, 16, 0, 0), (12, 0, 1, 0, 0, 1), (13, 27, 17, 0, 0, 0), (16, 0, 1, 0, 0, 0), (17, 52, 0, 0, 0, 0)]
def e_in_34 : List (Nat × Instr × Nat) := [(0, .iconst 0, 1), (1, .istore 4, 2), (3, .iconst 0, 1), (4, .istore 5, 2), (6, .iload 5, 2), (8, .iload_n 0, 1), (9, .if_icmp .ge 47, 3), (12, .iload 5, 2), (14, .bipush 6, 2), (16, .if_icmp .ge 40, 3), (19, .iload 5, 2), (21, .iconst 3, 1), (22, .irem, 1), (23, .istore 6, 2), (25, .iload 4, 2), (27, .iload 6, 2), (29, .ifCond .ne 7, 3), (32, .iload_n 1, 1), (33, .goto 14, 3), (36, .iload 6, 2), (38, .iconst 1, 1), (39, .if_icmp .ne 7, 3), (42, .iload_n 2, 1), (43, .goto 4, 3), (46, .iload_n 3, 1), (47, .iadd, 1), (48, .istore 4, 2), (50, .iinc 5 1, 3), (53, .goto (-47), 3), (56, .iload 4, 2), (58, .ireturn, 1)]
/-- EvenWheel.Parties.together(IIII)I -/
def e_pg_34 : List (Nat × e_PI) := [(0, 0, 1, 0, 0, 0), (1, 4, 4, 2, 0, 0), (3, 0, 1, 0, 0, 0), (4, 4, 5, 2, 0, 0), (6, 1, 5, 2, 0, 0), (8, 1, 0, 1, 0, 0), (9, 29, 3, 56, 0, 0), (12, 1, 5, 2, 0, 0), (14, 0, 2, 0, 0, 6), (16, 29, 3, 56, 0, 0), (19, 1, 5, 2, 0, 0), (21, 0, 1, 0, 0, 3), (22, 13, 0, 0, 0, 0), (23, 4, 6, 2, 0, 0), (25, 1, 4, 2, 0, 0), (27, 1, 6, 2, 0, 0), (29, 28, 1, 36, 0, 0), (32, 1, 1, 1, 0, 0), (33, 27, 47, 0, 0, 0), (36, 1, 6, 2, 0, 0), (38, 0, 1, 0, 0, 1), (39, 29, 1, 46, 0, 0), (42, 1, 2, 1, 0, 0), (43, 27, 47, 0, 0, 0), (46, 1, 3, 1, 0, 0), (47, 8, 0, 0, 0, 0), (48, 4, 4, 2, 0, 0), (50, 7, 5, 0, 0, 1), (53, 27, 6, 0, 0, 0), (56, 1, 4, 2, 0, 0), (58, 51, 0, 0, 0, 0)]
def e_in_35 : List (Nat × Instr × Nat) := [(0, .aload_n 0, 1), (1, .getfield 14, 3), (4, .invokevirtual 39, 3), (7, .aload_n 0, 1), (8, .getfield 20, 3), (11, .invokevirtual 39, 3), (14, .aload_n 0, 1), (15, .getfield 23, 3), (18, .invokevirtual 39, 3), (21, .aload_n 0, 1), (22, .getfield 26, 3), (25, .invokevirtual 39, 3), (28, .aload_n 0, 1), (29, .getfield 29, 3), (32, .invokevirtual 39, 3), (35, .aload_n 0, 1), (36, .getfield 32, 3), (39, .invokevirtual 39, 3), (42, .return_, 1)]
/-- EvenWheel.Parties.startAnew()V -/
def e_pg_35 : List (Nat × e_PI) := [(0, 2, 0, 1, 0, 0), (1, 30, 24, 2, 0, 0), (4, 44, 2135, 119, 1, 0), (7, 2, 0, 1, 0, 0), (8, 30, 25, 2, 1, 0), (11, 44, 2135, 119, 1, 0), (14, 2, 0, 1, 0, 0), (15, 30, 26, 2, 2, 0), (18, 44, 2135, 119, 1, 0), (21, 2, 0, 1, 0, 0), (22, 30, 27, 2, 3, 0), (25, 44, 2135, 119, 1, 0), (28, 2, 0, 1, 0, 0), (29, 30, 28, 2, 4, 0), (32, 44, 2135, 119, 1, 0), (35, 2, 0, 1, 0, 0), (36, 30, 29, 2, 5, 0), (39, 44, 2135, 119, 1, 0), (42, 50, 0, 0, 0, 0)]
def e_in_36 : List (Nat × Instr × Nat) := [(0, .aload_n 0, 1), (1, .getfield 14, 3), (4, .invokevirtual 42, 3), (7, .ireturn, 1)]
/-- EvenWheel.Parties.count()I -/
def e_pg_36 : List (Nat × e_PI) := [(0, 2, 0, 1, 0, 0), (1, 30, 24, 2, 0, 0), (4, 44, 2151, 111, 1, 0), (7, 51, 0, 0, 0, 0)]
def e_in_37 : List (Nat × Instr × Nat) := [(0, .aload_n 0, 1), (1, .getfield 14, 3), (4, .invokevirtual 46, 3), (7, .ireturn, 1)]
/-- EvenWheel.Parties.hasRoom()Z -/
def e_pg_37 : List (Nat × e_PI) := [(0, 2, 0, 1, 0, 0), (1, 30, 24, 2, 0, 0), (4, 44, 2167, 112, 1, 0), (7, 52, 0, 0, 0, 0)]
def e_in_38 : List (Nat × Instr × Nat) := [(0, .aload_n 0, 1), (1, .invokevirtual 50, 3), (4, .istore 4, 2), (6, .aload_n 0, 1), (7, .getfield 14, 3), (10, .iload_n 1, 1), (11, .invokevirtual 51, 3), (14, .aload_n 0, 1), (15, .getfield 20, 3), (18, .iload_n 2, 1), (19, .invokevirtual 51, 3), (22, .aload_n 0, 1), (23, .getfield 23, 3), (26, .iload_n 3, 1), (27, .invokevirtual 51, 3), (30, .aload_n 0, 1), (31, .getfield 26, 3), (34, .bipush 100, 2), (36, .invokevirtual 51, 3), (39, .aload_n 0, 1), (40, .getfield 29, 3), (43, .iconst 0, 1), (44, .invokevirtual 51, 3), (47, .aload_n 0, 1), (48, .getfield 32, 3), (51, .iconst 0, 1), (52, .invokevirtual 51, 3), (55, .iload 4, 2), (57, .ireturn, 1)]
/-- EvenWheel.Parties.add(III)I -/
def e_pg_38 : List (Nat × e_PI) := [(0, 2, 0, 1, 0, 0), (1, 44, 2178, 36, 1, 0), (4, 4, 4, 2, 0, 0), (6, 2, 0, 1, 0, 0), (7, 30, 24, 2, 0, 0), (10, 1, 1, 1, 0, 0), (11, 44, 2199, 115, 2, 0), (14, 2, 0, 1, 0, 0), (15, 30, 25, 2, 1, 0), (18, 1, 2, 1, 0, 0), (19, 44, 2199, 115, 2, 0), (22, 2, 0, 1, 0, 0), (23, 30, 26, 2, 2, 0), (26, 1, 3, 1, 0, 0), (27, 44, 2199, 115, 2, 0), (30, 2, 0, 1, 0, 0), (31, 30, 27, 2, 3, 0), (34, 0, 2, 0, 0, 100), (36, 44, 2199, 115, 2, 0), (39, 2, 0, 1, 0, 0), (40, 30, 28, 2, 4, 0), (43, 0, 1, 0, 0, 0), (44, 44, 2199, 115, 2, 0), (47, 2, 0, 1, 0, 0), (48, 30, 29, 2, 5, 0), (51, 0, 1, 0, 0, 0), (52, 44, 2199, 115, 2, 0), (55, 1, 4, 2, 0, 0), (57, 51, 0, 0, 0, 0)]
def e_in_39 : List (Nat × Instr × Nat) := [(0, .aload_n 0, 1), (1, .getfield 14, 3), (4, .iload_n 1, 1), (5, .invokevirtual 54, 3), (8, .ireturn, 1)]
/-- EvenWheel.Parties.personsOf(I)I -/
def e_pg_39 : List (Nat × e_PI) := [(0, 2, 0, 1, 0, 0), (1, 30, 24, 2, 0, 0), (4, 1, 1, 1, 0, 0), (5, 44, 2215, 113, 2, 0), (8, 51, 0, 0, 0, 0)]
def e_in_40 : List (Nat × Instr × Nat) := [(0, .iconst 0, 1), (1, .istore_n 2, 1), (2, .iconst 0, 1), (3, .istore_n 3, 1), (4, .iload_n 3, 1), (5, .aload_n 1, 1), (6, .invokevirtual 42, 3), (9, .if_icmp .ge 24, 3), (12, .iload_n 2, 1), (13, .aload_n 0, 1), (14, .getfield 14, 3), (17, .aload_n 1, 1), (18, .iload_n 3, 1), (19, .invokevirtual 54, 3), (22, .invokevirtual 54, 3), (25, .iadd, 1), (26, .istore_n 2, 1), (27, .iinc 3 1, 3), (30, .goto (-26), 3), (33, .iload_n 2, 1), (34, .ireturn, 1)]
/-- EvenWheel.Parties.personsOfAll(LEvenWheel.Row )I -/
def e_pg_40 : List (Nat × e_PI) := [(0, 0, 1, 0, 0, 0), (1, 4, 2, 1, 0, 0), (2, 0, 1, 0, 0, 0), (3, 4, 3, 1, 0, 0), (4, 1, 3, 1, 0, 0), (5, 2, 1, 1, 0, 0), (6, 44, 2151, 111, 1, 0), (9, 29, 3, 33, 0, 0), (12, 1, 2, 1, 0, 0), (13, 2, 0, 1, 0, 0), (14, 30, 24, 2, 0, 0), (17, 2, 1, 1, 0, 0), (18, 1, 3, 1, 0, 0), (19, 44, 2215, 113, 2, 0), (22, 44, 2215, 113, 2, 0), (25, 8, 0, 0, 0, 0), (26, 4, 2, 1, 0, 0), (27, 7, 3, 0, 0, 1), (30, 27, 4, 0, 0, 0), (33, 1, 2, 1, 0, 0), (34, 51, 0, 0, 0, 0)]
def e_in_41 : List (Nat × Instr × Nat) := [(0, .aload_n 0, 1), (1, .getfield 20, 3), (4, .iload_n 1, 1), (5, .invokevirtual 54, 3), (8, .ireturn, 1)]
/-- EvenWheel.Parties.weightOf(I)I -/
def e_pg_41 : List (Nat × e_PI) := [(0, 2, 0, 1, 0, 0), (1, 30, 25, 2, 1, 0), (4, 1, 1, 1, 0, 0), (5, 44, 2215, 113, 2, 0), (8, 51, 0, 0, 0, 0)]
def e_in_42 : List (Nat × Instr × Nat) := [(0, .aload_n 0, 1), (1, .getfield 23, 3), (4, .iload_n 1, 1), (5, .invokevirtual 54, 3), (8, .iconst 1, 1), (9, .iand, 1), (10, .ifCond .eq 7, 3), (13, .iconst 1, 1), (14, .goto 4, 3), (17, .iconst 0, 1), (18, .ireturn, 1)]
/-- EvenWheel.Parties.wantsAlone(I)Z -/
def e_pg_42 : List (Nat × e_PI) := [(0, 2, 0, 1, 0, 0), (1, 30, 26, 2, 2, 0), (4, 1, 1, 1, 0, 0), (5, 44, 2215, 113, 2, 0), (8, 0, 1, 0, 0, 1), (9, 16, 0, 0, 0, 0), (10, 28, 0, 17, 0, 0), (13, 0, 1, 0, 0, 1), (14, 27, 18, 0, 0, 0), (17, 0, 1, 0, 0, 0), (18, 52, 0, 0, 0, 0)]
def e_in_43 : List (Nat × Instr × Nat) := [(0, .aload_n 0, 1), (1, .getfield 26, 3), (4, .iload_n 1, 1), (5, .iload_n 2, 1), (6, .invokevirtual 58, 3), (9, .return_, 1)]
/-- EvenWheel.Parties.moveTo(II)V -/
def e_pg_43 : List (Nat × e_PI) := [(0, 2, 0, 1, 0, 0), (1, 30, 27, 2, 3, 0), (4, 1, 1, 1, 0, 0), (5, 1, 2, 1, 0, 0), (6, 44, 2231, 116, 3, 0), (9, 50, 0, 0, 0, 0)]
def e_in_44 : List (Nat × Instr × Nat) := [(0, .aload_n 0, 1), (1, .getfield 29, 3), (4, .iload_n 1, 1), (5, .iconst 1, 1), (6, .invokevirtual 58, 3), (9, .return_, 1)]
/-- EvenWheel.Parties.see(I)V -/
def e_pg_44 : List (Nat × e_PI) := [(0, 2, 0, 1, 0, 0), (1, 30, 28, 2, 4, 0), (4, 1, 1, 1, 0, 0), (5, 0, 1, 0, 0, 1), (6, 44, 2231, 116, 3, 0), (9, 50, 0, 0, 0, 0)]
def e_in_45 : List (Nat × Instr × Nat) := [(0, .aload_n 0, 1), (1, .getfield 32, 3), (4, .iload_n 1, 1), (5, .invokevirtual 54, 3), (8, .ireturn, 1)]
/-- EvenWheel.Parties.timesPassed(I)I -/
def e_pg_45 : List (Nat × e_PI) := [(0, 2, 0, 1, 0, 0), (1, 30, 29, 2, 5, 0), (4, 1, 1, 1, 0, 0), (5, 44, 2215, 113, 2, 0), (8, 51, 0, 0, 0, 0)]
def e_in_46 : List (Nat × Instr × Nat) := [(0, .aload_n 0, 1), (1, .getfield 32, 3), (4, .iload_n 1, 1), (5, .aload_n 0, 1), (6, .getfield 32, 3), (9, .iload_n 1, 1), (10, .invokevirtual 54, 3), (13, .iconst 1, 1), (14, .iadd, 1), (15, .invokevirtual 58, 3), (18, .return_, 1)]
/-- EvenWheel.Parties.passOver(I)V -/
def e_pg_46 : List (Nat × e_PI) := [(0, 2, 0, 1, 0, 0), (1, 30, 29, 2, 5, 0), (4, 1, 1, 1, 0, 0), (5, 2, 0, 1, 0, 0), (6, 30, 29, 2, 5, 0), (9, 1, 1, 1, 0, 0), (10, 44, 2215, 113, 2, 0), (13, 0, 1, 0, 0, 1), (14, 8, 0, 0, 0, 0), (15, 44, 2231, 116, 3, 0), (18, 50, 0, 0, 0, 0)]
def e_in_47 : List (Nat × Instr × Nat) := [(0, .iload_n 1, 1), (1, .ifCond .lt 11, 3), (4, .iload_n 1, 1), (5, .aload_n 0, 1), (6, .invokevirtual 50, 3), (9, .if_icmp .lt 6, 3), (12, .bipush (-101), 2), (14, .ireturn, 1), (15, .iload_n 2, 1), (16, .tableswitch 94 0 5 #[40, 49, 58, 67, 76, 85], 40), (56, .aload_n 0, 1), (57, .getfield 14, 3), (60, .iload_n 1, 1), (61, .invokevirtual 54, 3), (64, .ireturn, 1), (65, .aload_n 0, 1), (66, .getfield 20, 3), (69, .iload_n 1, 1), (70, .invokevirtual 54, 3), (73, .ireturn, 1), (74, .aload_n 0, 1), (75, .getfield 23, 3), (78, .iload_n 1, 1), (79, .invokevirtual 54, 3), (82, .ireturn, 1), (83, .aload_n 0, 1), (84, .getfield 26, 3), (87, .iload_n 1, 1), (88, .invokevirtual 54, 3), (91, .ireturn, 1), (92, .aload_n 0, 1), (93, .getfield 29, 3), (96, .iload_n 1, 1), (97, .invokevirtual 54, 3), (100, .ireturn, 1), (101, .aload_n 0, 1), (102, .getfield 32, 3), (105, .iload_n 1, 1), (106, .invokevirtual 54, 3), (109, .ireturn, 1), (110, .bipush (-102), 2), (112, .ireturn, 1)]
/-- EvenWheel.Parties.tell(II)I -/
def e_pg_47 : List (Nat × e_PI) := [(0, 1, 1, 1, 0, 0), (1, 28, 2, 12, 0, 0), (4, 1, 1, 1, 0, 0), (5, 2, 0, 1, 0, 0), (6, 44, 2178, 36, 1, 0), (9, 29, 2, 15, 0, 0), (12, 0, 2, 0, 0, -101), (14, 51, 0, 0, 0, 0), (15, 1, 2, 1, 0, 0), (16, 47, 0, 0, 0, 0), (56, 2, 0, 1, 0, 0), (57, 30, 24, 2, 0, 0), (60, 1, 1, 1, 0, 0), (61, 44, 2215, 113, 2, 0), (64, 51, 0, 0, 0, 0), (65, 2, 0, 1, 0, 0), (66, 30, 25, 2, 1, 0), (69, 1, 1, 1, 0, 0), (70, 44, 2215, 113, 2, 0), (73, 51, 0, 0, 0, 0), (74, 2, 0, 1, 0, 0), (75, 30, 26, 2, 2, 0), (78, 1, 1, 1, 0, 0), (79, 44, 2215, 113, 2, 0), (82, 51, 0, 0, 0, 0), (83, 2, 0, 1, 0, 0), (84, 30, 27, 2, 3, 0), (87, 1, 1, 1, 0, 0), (88, 44, 2215, 113, 2, 0), (91, 51, 0, 0, 0, 0), (92, 2, 0, 1, 0, 0), (93, 30, 28, 2, 4, 0), (96, 1, 1, 1, 0, 0), (97, 44, 2215, 113, 2, 0), (100, 51, 0, 0, 0, 0), (101, 2, 0, 1, 0, 0), (102, 30, 29, 2, 5, 0), (105, 1, 1, 1, 0, 0), (106, 44, 2215, 113, 2, 0), (109, 51, 0, 0, 0, 0), (110, 0, 2, 0, 0, -102), (112, 51, 0, 0, 0, 0)]
def e_in_48 : List (Nat × Instr × Nat) := [(0, .iconst 0, 1), (1, .istore_n 3, 1), (2, .iload_n 3, 1), (3, .aload_n 0, 1), (4, .invokevirtual 50, 3), (7, .if_icmp .ge 37, 3), (10, .iconst 0, 1), (11, .istore 4, 2), (13, .iload 4, 2), (15, .iconst 5, 1), (16, .if_icmp .gt 22, 3), (19, .lload_n 1, 1), (20, .aload_n 0, 1), (21, .iload_n 3, 1), (22, .iload 4, 2), (24, .invokevirtual 62, 3), (27, .i2l, 1), (28, .invokestatic 66, 3), (31, .lstore_n 1, 1), (32, .iinc 4 1, 3), (35, .goto (-22), 3), (38, .iinc 3 1, 3), (41, .goto (-39), 3), (44, .lload_n 1, 1), (45, .lreturn, 1)]
/-- EvenWheel.Parties.mixInto(J)J -/
def e_pg_48 : List (Nat × e_PI) := [(0, 0, 1, 0, 0, 0), (1, 4, 3, 1, 0, 0), (2, 1, 3, 1, 0, 0), (3, 2, 0, 1, 0, 0), (4, 44, 2178, 36, 1, 0), (7, 29, 3, 44, 0, 0), (10, 0, 1, 0, 0, 0), (11, 4, 4, 2, 0, 0), (13, 1, 4, 2, 0, 0), (15, 0, 1, 0, 0, 5), (16, 29, 4, 38, 0, 0), (19, 3, 1, 1, 0, 0), (20, 2, 0, 1, 0, 0), (21, 1, 3, 1, 0, 0), (22, 1, 4, 2, 0, 0), (24, 44, 2242, 47, 3, 0), (27, 19, 0, 0, 0, 0), (28, 44, 2271, 191, 2, 0), (31, 6, 1, 1, 0, 0), (32, 7, 4, 0, 0, 1), (35, 27, 13, 0, 0, 0), (38, 7, 3, 0, 0, 1), (41, 27, 2, 0, 0, 0), (44, 3, 1, 1, 0, 0), (45, 53, 0, 0, 0, 0)]
def e_in_49 : List (Nat × Instr × Nat) := [(0, .aload_n 0, 1), (1, .invokespecial 3, 3), (4, .aload_n 0, 1), (5, .aload_n 1, 1), (6, .putfield 9, 3), (9, .aload_n 0, 1), (10, .bipush 30, 2), (12, .newarray .int, 2), (14, .putfield 15, 3), (17, .aload_n 0, 1), (18, .bipush 30, 2), (20, .newarray .int, 2), (22, .putfield 19, 3), (25, .aload_n 0, 1), (26, .bipush 30, 2), (28, .newarray .int, 2), (30, .putfield 22, 3), (33, .aload_n 0, 1), (34, .bipush 30, 2), (36, .newarray .int, 2), (38, .putfield 25, 3), (41, .aload_n 0, 1), (42, .new 28, 3), (45, .dup, 1), (46, .bipush 12, 2), (48, .invokespecial 30, 3), (51, .putfield 33, 3), (54, .aload_n 0, 1), (55, .new 28, 3), (58, .dup, 1), (59, .bipush 12, 2), (61, .invokespecial 30, 3), (64, .putfield 37, 3), (67, .aload_n 0, 1), (68, .new 28, 3), (71, .dup, 1), (72, .bipush 12, 2), (74, .invokespecial 30, 3), (77, .putfield 40, 3), (80, .aload_n 0, 1), (81, .invokevirtual 43, 3), (84, .return_, 1)]
/-- EvenWheel.Readings.init(LEvenWheel.Wheel )V -/
def e_pg_49 : List (Nat × e_PI) := [(0, 2, 0, 1, 0, 0), (1, 46, 142, 0, 0, 0), (4, 2, 0, 1, 0, 0), (5, 2, 1, 1, 0, 0), (6, 31, 30, 3, 0, 2), (9, 2, 0, 1, 0, 0), (10, 0, 2, 0, 0, 30), (12, 40, 0, 0, 0, 0), (14, 31, 31, 3, 1, 2), (17, 2, 0, 1, 0, 0), (18, 0, 2, 0, 0, 30), (20, 40, 0, 0, 0, 0), (22, 31, 32, 3, 2, 2), (25, 2, 0, 1, 0, 0), (26, 0, 2, 0, 0, 30), (28, 40, 0, 0, 0, 0), (30, 31, 33, 3, 3, 2), (33, 2, 0, 1, 0, 0), (34, 0, 2, 0, 0, 30), (36, 40, 0, 0, 0, 0), (38, 31, 34, 3, 4, 2), (41, 2, 0, 1, 0, 0), (42, 43, 11, 7, 0, 0), (45, 24, 0, 0, 0, 0), (46, 0, 2, 0, 0, 12), (48, 44, 2295, 110, 2, 0), (51, 31, 35, 3, 5, 2), (54, 2, 0, 1, 0, 0), (55, 43, 11, 7, 0, 0), (58, 24, 0, 0, 0, 0), (59, 0, 2, 0, 0, 12), (61, 44, 2295, 110, 2, 0), (64, 31, 36, 3, 6, 2), (67, 2, 0, 1, 0, 0), (68, 43, 11, 7, 0, 0), (71, 24, 0, 0, 0, 0), (72, 0, 2, 0, 0, 12), (74, 44, 2295, 110, 2, 0), (77, 31, 37, 3, 7, 2), (80, 2, 0, 1, 0, 0), (81, 44, 2307, 50, 1, 0), (84, 50, 0, 0, 0, 0)]
def e_in_50 : List (Nat × Instr × Nat) := [(0, .aload_n 0, 1), (1, .invokevirtual 46, 3), (4, .pop, 1), (5, .aload_n 0, 1), (6, .getfield 15, 3), (9, .iconst 0, 1), (10, .invokestatic 50, 3), (13, .aload_n 0, 1), (14, .getfield 19, 3), (17, .sipush 900, 3), (20, .invokestatic 50, 3), (23, .return_, 1)]
/-- EvenWheel.Readings.startAnew()V -/
def e_pg_50 : List (Nat × e_PI) := [(0, 2, 0, 1, 0, 0), (1, 44, 2323, 51, 1, 0), (4, 26, 0, 0, 0, 0), (5, 2, 0, 1, 0, 0), (6, 30, 31, 3, 1, 0), (9, 0, 1, 0, 0, 0), (10, 44, 2351, 267, 2, 0), (13, 2, 0, 1, 0, 0), (14, 30, 32, 3, 2, 0), (17, 0, 3, 0, 0, 900), (20, 44, 2351, 267, 2, 0), (23, 50, 0, 0, 0, 0)]
def e_in_51 : List (Nat × Instr × Nat) := [(0, .aload_n 0, 1), (1, .getfield 33, 3), (4, .invokevirtual 56, 3), (7, .istore_n 1, 1), (8, .aload_n 0, 1), (9, .getfield 33, 3), (12, .invokevirtual 59, 3), (15, .aload_n 0, 1), (16, .getfield 37, 3), (19, .invokevirtual 59, 3), (22, .aload_n 0, 1), (23, .getfield 40, 3), (26, .invokevirtual 59, 3), (29, .iload_n 1, 1), (30, .ireturn, 1)]
/-- EvenWheel.Readings.dropAll()I -/
def e_pg_51 : List (Nat × e_PI) := [(0, 2, 0, 1, 0, 0), (1, 30, 35, 3, 5, 0), (4, 44, 2359, 111, 1, 0), (7, 4, 1, 1, 0, 0), (8, 2, 0, 1, 0, 0), (9, 30, 35, 3, 5, 0), (12, 44, 2375, 119, 1, 0), (15, 2, 0, 1, 0, 0), (16, 30, 36, 3, 6, 0), (19, 44, 2375, 119, 1, 0), (22, 2, 0, 1, 0, 0), (23, 30, 37, 3, 7, 0), (26, 44, 2375, 119, 1, 0), (29, 1, 1, 1, 0, 0), (30, 51, 0, 0, 0, 0)]
def e_in_52 : List (Nat × Instr × Nat) := [(0, .iload_n 0, 1), (1, .ifCond .lt 13, 3), (4, .iload_n 0, 1), (5, .bipush 30, 2), (7, .if_icmp .ge 7, 3), (10, .iconst 1, 1), (11, .goto 4, 3), (14, .iconst 0, 1), (15, .ireturn, 1)]
/-- EvenWheel.Readings.holds(I)Z -/
def e_pg_52 : List (Nat × e_PI) := [(0, 1, 0, 1, 0, 0), (1, 28, 2, 14, 0, 0), (4, 1, 0, 1, 0, 0), (5, 0, 2, 0, 0, 30), (7, 29, 3, 14, 0, 0), (10, 0, 1, 0, 0, 1), (11, 27, 15, 0, 0, 0), (14, 0, 1, 0, 0, 0), (15, 52, 0, 0, 0, 0)]
def e_in_53 : List (Nat × Instr × Nat) := [(0, .iload_n 1, 1), (1, .invokestatic 62, 3), (4, .ifCond .eq 19, 3), (7, .iload_n 2, 1), (8, .ifCond .lt 15, 3), (11, .iload_n 2, 1), (12, .iload_n 3, 1), (13, .if_icmp .gt 10, 3), (16, .iload_n 3, 1), (17, .sipush 900, 3), (20, .if_icmp .le 5, 3), (23, .iconst 0, 1), (24, .ireturn, 1), (25, .aload_n 0, 1), (26, .getfield 15, 3), (29, .iload_n 1, 1), (30, .iload_n 2, 1), (31, .iastore, 1), (32, .aload_n 0, 1), (33, .getfield 19, 3), (36, .iload_n 1, 1), (37, .iload_n 3, 1), (38, .iastore, 1), (39, .iconst 1, 1), (40, .ireturn, 1)]
/-- EvenWheel.Readings.suppose(III)Z -/
def e_pg_53 : List (Nat × e_PI) := [(0, 1, 1, 1, 0, 0), (1, 44, 2399, 52, 1, 0), (4, 28, 0, 23, 0, 0), (7, 1, 2, 1, 0, 0), (8, 28, 2, 23, 0, 0), (11, 1, 2, 1, 0, 0), (12, 1, 3, 1, 0, 0), (13, 29, 4, 23, 0, 0), (16, 1, 3, 1, 0, 0), (17, 0, 3, 0, 0, 900), (20, 29, 5, 25, 0, 0), (23, 0, 1, 0, 0, 0), (24, 52, 0, 0, 0, 0), (25, 2, 0, 1, 0, 0), (26, 30, 31, 3, 1, 0), (29, 1, 1, 1, 0, 0), (30, 1, 2, 1, 0, 0), (31, 33, 0, 0, 0, 0), (32, 2, 0, 1, 0, 0), (33, 30, 32, 3, 2, 0), (36, 1, 1, 1, 0, 0), (37, 1, 3, 1, 0, 0), (38, 33, 0, 0, 0, 0), (39, 0, 1, 0, 0, 1), (40, 52, 0, 0, 0, 0)]
def e_in_54 : List (Nat × Instr × Nat) := [(0, .iload_n 0, 1), (1, .ldc 66, 2), (3, .if_icmp .lt 23, 3), (6, .iload_n 0, 1), (7, .ldc 67, 2), (9, .if_icmp .gt 17, 3), (12, .iload_n 1, 1), (13, .ifCond .lt 13, 3), (16, .iload_n 1, 1), (17, .ldc 68, 2), (19, .if_icmp .gt 7, 3), (22, .iconst 1, 1), (23, .goto 4, 3), (26, .iconst 0, 1), (27, .ireturn, 1)]
/-- EvenWheel.Readings.allows(II)Z -/
def e_pg_54 : List (Nat × e_PI) := [(0, 1, 0, 1, 0, 0), (1, 0, 2, 2, 0, -2000000), (3, 29, 2, 26, 0, 0), (6, 1, 0, 1, 0, 0), (7, 0, 2, 3, 0, 2000000), (9, 29, 4, 26, 0, 0), (12, 1, 1, 1, 0, 0), (13, 28, 2, 26, 0, 0), (16, 1, 1, 1, 0, 0), (17, 0, 2, 4, 0, 100000), (19, 29, 4, 26, 0, 0), (22, 0, 1, 0, 0, 1), (23, 27, 27, 0, 0, 0), (26, 0, 1, 0, 0, 0), (27, 52, 0, 0, 0, 0)]
def e_in_55 : List (Nat × Instr × Nat) := [(0, .aload_n 0, 1), (1, .getfield 33, 3), (4, .invokevirtual 69, 3), (7, .ifCond .ne 6, 3), (10, .bipush (-104), 2), (12, .ireturn, 1), (13, .aload_n 0, 1), (14, .getfield 33, 3), (17, .iload_n 1, 1), (18, .invokevirtual 73, 3), (21, .aload_n 0, 1), (22, .getfield 37, 3), (25, .iload_n 2, 1), (26, .invokevirtual 73, 3), (29, .aload_n 0, 1), (30, .getfield 40, 3), (33, .iload_n 3, 1), (34, .invokevirtual 73, 3), (37, .aload_n 0, 1), (38, .getfield 33, 3), (41, .invokevirtual 56, 3), (44, .ireturn, 1)]
/-- EvenWheel.Readings.write(III)I -/
def e_pg_55 : List (Nat × e_PI) := [(0, 2, 0, 1, 0, 0), (1, 30, 35, 3, 5, 0), (4, 44, 2407, 112, 1, 0), (7, 28, 1, 13, 0, 0), (10, 0, 2, 0, 0, -104), (12, 51, 0, 0, 0, 0), (13, 2, 0, 1, 0, 0), (14, 30, 35, 3, 5, 0), (17, 1, 1, 1, 0, 0), (18, 44, 2423, 115, 2, 0), (21, 2, 0, 1, 0, 0), (22, 30, 36, 3, 6, 0), (25, 1, 2, 1, 0, 0), (26, 44, 2423, 115, 2, 0), (29, 2, 0, 1, 0, 0), (30, 30, 37, 3, 7, 0), (33, 1, 3, 1, 0, 0), (34, 44, 2423, 115, 2, 0), (37, 2, 0, 1, 0, 0), (38, 30, 35, 3, 5, 0), (41, 44, 2359, 111, 1, 0), (44, 51, 0, 0, 0, 0)]
def e_in_56 : List (Nat × Instr × Nat) := [(0, .iload_n 1, 1), (1, .invokestatic 62, 3), (4, .ifCond .eq 12, 3), (7, .aload_n 0, 1), (8, .getfield 22, 3), (11, .iload_n 1, 1), (12, .iaload, 1), (13, .goto 4, 3), (16, .iconst (-1), 1), (17, .ireturn, 1)]
/-- EvenWheel.Readings.lowOf(I)I -/
def e_pg_56 : List (Nat × e_PI) := [(0, 1, 1, 1, 0, 0), (1, 44, 2399, 52, 1, 0), (4, 28, 0, 16, 0, 0), (7, 2, 0, 1, 0, 0), (8, 30, 33, 3, 3, 0), (11, 1, 1, 1, 0, 0), (12, 32, 0, 0, 0, 0), (13, 27, 17, 0, 0, 0), (16, 0, 1, 0, 0, -1), (17, 51, 0, 0, 0, 0)]
def e_in_57 : List (Nat × Instr × Nat) := [(0, .iload_n 1, 1), (1, .invokestatic 62, 3), (4, .ifCond .eq 12, 3), (7, .aload_n 0, 1), (8, .getfield 25, 3), (11, .iload_n 1, 1), (12, .iaload, 1), (13, .goto 4, 3), (16, .iconst (-1), 1), (17, .ireturn, 1)]
/-- EvenWheel.Readings.highOf(I)I -/
def e_pg_57 : List (Nat × e_PI) := [(0, 1, 1, 1, 0, 0), (1, 44, 2399, 52, 1, 0), (4, 28, 0, 16, 0, 0), (7, 2, 0, 1, 0, 0), (8, 30, 34, 3, 4, 0), (11, 1, 1, 1, 0, 0), (12, 32, 0, 0, 0, 0), (13, 27, 17, 0, 0, 0), (16, 0, 1, 0, 0, -1), (17, 51, 0, 0, 0, 0)]
def e_in_58 : List (Nat × Instr × Nat) := [(0, .aload_n 0, 1), (1, .getfield 15, 3), (4, .iconst 0, 1), (5, .aload_n 0, 1), (6, .getfield 22, 3), (9, .iconst 0, 1), (10, .bipush 30, 2), (12, .invokestatic 76, 3), (15, .aload_n 0, 1), (16, .getfield 19, 3), (19, .iconst 0, 1), (20, .aload_n 0, 1), (21, .getfield 25, 3), (24, .iconst 0, 1), (25, .bipush 30, 2), (27, .invokestatic 76, 3), (30, .iconst 0, 1), (31, .istore_n 1, 1), (32, .iload_n 1, 1), (33, .aload_n 0, 1), (34, .getfield 33, 3), (37, .invokevirtual 56, 3), (40, .if_icmp .ge 19, 3), (43, .aload_n 0, 1), (44, .iload_n 1, 1), (45, .invokevirtual 82, 3), (48, .ifCond .ne 5, 3), (51, .iload_n 1, 1), (52, .ireturn, 1), (53, .iinc 1 1, 3), (56, .goto (-24), 3), (59, .iconst (-1), 1), (60, .ireturn, 1)]
/-- EvenWheel.Readings.narrow()I -/
def e_pg_58 : List (Nat × e_PI) := [(0, 2, 0, 1, 0, 0), (1, 30, 31, 3, 1, 0), (4, 0, 1, 0, 0, 0), (5, 2, 0, 1, 0, 0), (6, 30, 33, 3, 3, 0), (9, 0, 1, 0, 0, 0), (10, 0, 2, 0, 0, 30), (12, 45, 152, 0, 0, 0), (15, 2, 0, 1, 0, 0), (16, 30, 32, 3, 2, 0), (19, 0, 1, 0, 0, 0), (20, 2, 0, 1, 0, 0), (21, 30, 34, 3, 4, 0), (24, 0, 1, 0, 0, 0), (25, 0, 2, 0, 0, 30), (27, 45, 152, 0, 0, 0), (30, 0, 1, 0, 0, 0), (31, 4, 1, 1, 0, 0), (32, 1, 1, 1, 0, 0), (33, 2, 0, 1, 0, 0), (34, 30, 35, 3, 5, 0), (37, 44, 2359, 111, 1, 0), (40, 29, 3, 59, 0, 0), (43, 2, 0, 1, 0, 0), (44, 1, 1, 1, 0, 0), (45, 44, 2451, 59, 2, 0), (48, 28, 1, 53, 0, 0), (51, 1, 1, 1, 0, 0), (52, 51, 0, 0, 0, 0), (53, 7, 1, 0, 0, 1), (56, 27, 32, 0, 0, 0), (59, 0, 1, 0, 0, -1), (60, 51, 0, 0, 0, 0)]
def e_in_59 : List (Nat × Instr × Nat) := [(0, .aload_n 0, 1), (1, .getfield 33, 3), (4, .iload_n 1, 1), (5, .invokevirtual 85, 3), (8, .istore_n 2, 1), (9, .iconst 0, 1), (10, .istore_n 3, 1), (11, .iconst 0, 1), (12, .istore 4, 2), (14, .iconst 0, 1), (15, .istore 5, 2), (17, .iload 5, 2), (19, .aload_n 0, 1), (20, .getfield 9, 3), (23, .invokevirtual 89, 3), (26, .if_icmp .ge 31, 3), (29, .iload_n 3, 1), (30, .aload_n 0, 1), (31, .iload 5, 2), (33, .iload_n 2, 1), (34, .invokevirtual 92, 3), (37, .iadd, 1), (38, .istore_n 3, 1), (39, .iload 4, 2), (41, .aload_n 0, 1), (42, .iload 5, 2), (44, .iload_n 2, 1), (45, .invokevirtual 96, 3), (48, .iadd, 1), (49, .istore 4, 2), (51, .iinc 5 1, 3), (54, .goto (-37), 3), (57, .iconst 0, 1), (58, .istore 5, 2), (60, .iload 5, 2), (62, .aload_n 0, 1), (63, .getfield 9, 3), (66, .invokevirtual 89, 3), (69, .if_icmp .ge 124, 3), (72, .iload_n 3, 1), (73, .aload_n 0, 1), (74, .iload 5, 2), (76, .iload_n 2, 1), (77, .invokevirtual 92, 3), (80, .isub, 1), (81, .istore 6, 2), (83, .iload 4, 2), (85, .aload_n 0, 1), (86, .iload 5, 2), (88, .iload_n 2, 1), (89, .invokevirtual 96, 3), (92, .isub, 1), (93, .istore 7, 2), (95, .aload_n 0, 1), (96, .getfield 37, 3), (99, .iload_n 1, 1), (100, .invokevirtual 85, 3), (103, .aload_n 0, 1), (104, .getfield 40, 3), (107, .iload_n 1, 1), (108, .invokevirtual 85, 3), (111, .isub, 1), (112, .iload 7, 2), (114, .isub, 1), (115, .istore 8, 2), (117, .aload_n 0, 1), (118, .getfield 37, 3), (121, .iload_n 1, 1), (122, .invokevirtual 85, 3), (125, .aload_n 0, 1), (126, .getfield 40, 3), (129, .iload_n 1, 1), (130, .invokevirtual 85, 3), (133, .iadd, 1), (134, .iload 6, 2), (136, .isub, 1), (137, .istore 9, 2), (139, .aload_n 0, 1), (140, .iload 5, 2), (142, .aload_n 0, 1), (143, .getfield 9, 3), (146, .iload 5, 2), (148, .iload_n 2, 1), (149, .invokevirtual 99, 3), (152, .iload 8, 2), (154, .iload 9, 2), (156, .invokevirtual 102, 3), (159, .ifCond .ne 5, 3), (162, .iconst 0, 1), (163, .ireturn, 1), (164, .iload 6, 2), (166, .aload_n 0, 1), (167, .iload 5, 2), (169, .iload_n 2, 1), (170, .invokevirtual 92, 3), (173, .iadd, 1), (174, .istore_n 3, 1), (175, .iload 7, 2), (177, .aload_n 0, 1), (178, .iload 5, 2), (180, .iload_n 2, 1), (181, .invokevirtual 96, 3), (184, .iadd, 1), (185, .istore 4, 2), (187, .iinc 5 1, 3), (190, .goto (-130), 3), (193, .iconst 1, 1), (194, .ireturn, 1)]
/-- EvenWheel.Readings.narrowBy(I)Z -/
def e_pg_59 : List (Nat × e_PI) := [(0, 2, 0, 1, 0, 0), (1, 30, 35, 3, 5, 0), (4, 1, 1, 1, 0, 0), (5, 44, 2471, 113, 2, 0), (8, 4, 2, 1, 0, 0), (9, 0, 1, 0, 0, 0), (10, 4, 3, 1, 0, 0), (11, 0, 1, 0, 0, 0), (12, 4, 4, 2, 0, 0), (14, 0, 1, 0, 0, 0), (15, 4, 5, 2, 0, 0), (17, 1, 5, 2, 0, 0), (19, 2, 0, 1, 0, 0), (20, 30, 30, 3, 0, 0), (23, 44, 2489, 133, 1, 0), (26, 29, 3, 57, 0, 0), (29, 1, 3, 1, 0, 0), (30, 2, 0, 1, 0, 0), (31, 1, 5, 2, 0, 0), (33, 1, 2, 1, 0, 0), (34, 44, 2499, 60, 3, 0), (37, 8, 0, 0, 0, 0), (38, 4, 3, 1, 0, 0), (39, 1, 4, 2, 0, 0), (41, 2, 0, 1, 0, 0), (42, 1, 5, 2, 0, 0), (44, 1, 2, 1, 0, 0), (45, 44, 2515, 61, 3, 0), (48, 8, 0, 0, 0, 0), (49, 4, 4, 2, 0, 0), (51, 7, 5, 0, 0, 1), (54, 27, 17, 0, 0, 0), (57, 0, 1, 0, 0, 0), (58, 4, 5, 2, 0, 0), (60, 1, 5, 2, 0, 0), (62, 2, 0, 1, 0, 0), (63, 30, 30, 3, 0, 0), (66, 44, 2489, 133, 1, 0), (69, 29, 3, 193, 0, 0), (72, 1, 3, 1, 0, 0), (73, 2, 0, 1, 0, 0), (74, 1, 5, 2, 0, 0), (76, 1, 2, 1, 0, 0), (77, 44, 2499, 60, 3, 0), (80, 9, 0, 0, 0, 0), (81, 4, 6, 2, 0, 0), (83, 1, 4, 2, 0, 0), (85, 2, 0, 1, 0, 0), (86, 1, 5, 2, 0, 0), (88, 1, 2, 1, 0, 0), (89, 44, 2515, 61, 3, 0), (92, 9, 0, 0, 0, 0), (93, 4, 7, 2, 0, 0), (95, 2, 0, 1, 0, 0), (96, 30, 36, 3, 6, 0), (99, 1, 1, 1, 0, 0), (100, 44, 2471, 113, 2, 0), (103, 2, 0, 1, 0, 0), (104, 30, 37, 3, 7, 0), (107, 1, 1, 1, 0, 0), (108, 44, 2471, 113, 2, 0), (111, 9, 0, 0, 0, 0), (112, 1, 7, 2, 0, 0), (114, 9, 0, 0, 0, 0), (115, 4, 8, 2, 0, 0), (117, 2, 0, 1, 0, 0), (118, 30, 36, 3, 6, 0), (121, 1, 1, 1, 0, 0), (122, 44, 2471, 113, 2, 0), (125, 2, 0, 1, 0, 0), (126, 30, 37, 3, 7, 0), (129, 1, 1, 1, 0, 0), (130, 44, 2471, 113, 2, 0), (133, 8, 0, 0, 0, 0), (134, 1, 6, 2, 0, 0), (136, 9, 0, 0, 0, 0), (137, 4, 9, 2, 0, 0), (139, 2, 0, 1, 0, 0), (140, 1, 5, 2, 0, 0), (142, 2, 0, 1, 0, 0), (143, 30, 30, 3, 0, 0), (146, 1, 5, 2, 0, 0), (148, 1, 2, 1, 0, 0), (149, 44, 2537, 144, 3, 0), (152, 1, 8, 2, 0, 0), (154, 1, 9, 2, 0, 0), (156, 44, 2547, 62, 5, 0), (159, 28, 1, 164, 0, 0), (162, 0, 1, 0, 0, 0), (163, 52, 0, 0, 0, 0), (164, 1, 6, 2, 0, 0), (166, 2, 0, 1, 0, 0), (167, 1, 5, 2, 0, 0), (169, 1, 2, 1, 0, 0), (170, 44, 2499, 60, 3, 0), (173, 8, 0, 0, 0, 0), (174, 4, 3, 1, 0, 0), (175, 1, 7, 2, 0, 0), (177, 2, 0, 1, 0, 0), (178, 1, 5, 2, 0, 0), (180, 1, 2, 1, 0, 0), (181, 44, 2515, 61, 3, 0), (184, 8, 0, 0, 0, 0), (185, 4, 4, 2, 0, 0), (187, 7, 5, 0, 0, 1), (190, 27, 60, 0, 0, 0), (193, 0, 1, 0, 0, 1), (194, 52, 0, 0, 0, 0)]
def e_in_60 : List (Nat × Instr × Nat) := [(0, .aload_n 0, 1), (1, .getfield 9, 3), (4, .iload_n 1, 1), (5, .iload_n 2, 1), (6, .invokevirtual 99, 3), (9, .istore_n 3, 1), (10, .iload_n 3, 1), (11, .iload_n 3, 1), (12, .ifCond .le 11, 3), (15, .aload_n 0, 1), (16, .iload_n 1, 1), (17, .invokevirtual 106, 3), (20, .goto 8, 3), (23, .aload_n 0, 1), (24, .iload_n 1, 1), (25, .invokevirtual 109, 3), (28, .imul, 1), (29, .ireturn, 1)]
/-- EvenWheel.Readings.leastOf(II)I -/
def e_pg_60 : List (Nat × e_PI) := [(0, 2, 0, 1, 0, 0), (1, 30, 30, 3, 0, 0), (4, 1, 1, 1, 0, 0), (5, 1, 2, 1, 0, 0), (6, 44, 2537, 144, 3, 0), (9, 4, 3, 1, 0, 0), (10, 1, 3, 1, 0, 0), (11, 1, 3, 1, 0, 0), (12, 28, 5, 23, 0, 0), (15, 2, 0, 1, 0, 0), (16, 1, 1, 1, 0, 0), (17, 44, 2563, 56, 2, 0), (20, 27, 28, 0, 0, 0), (23, 2, 0, 1, 0, 0), (24, 1, 1, 1, 0, 0), (25, 44, 2579, 57, 2, 0), (28, 10, 0, 0, 0, 0), (29, 51, 0, 0, 0, 0)]
def e_in_61 : List (Nat × Instr × Nat) := [(0, .aload_n 0, 1), (1, .getfield 9, 3), (4, .iload_n 1, 1), (5, .iload_n 2, 1), (6, .invokevirtual 99, 3), (9, .istore_n 3, 1), (10, .iload_n 3, 1), (11, .iload_n 3, 1), (12, .ifCond .le 11, 3), (15, .aload_n 0, 1), (16, .iload_n 1, 1), (17, .invokevirtual 109, 3), (20, .goto 8, 3), (23, .aload_n 0, 1), (24, .iload_n 1, 1), (25, .invokevirtual 106, 3), (28, .imul, 1), (29, .ireturn, 1)]
/-- EvenWheel.Readings.mostOf(II)I -/
def e_pg_61 : List (Nat × e_PI) := [(0, 2, 0, 1, 0, 0), (1, 30, 30, 3, 0, 0), (4, 1, 1, 1, 0, 0), (5, 1, 2, 1, 0, 0), (6, 44, 2537, 144, 3, 0), (9, 4, 3, 1, 0, 0), (10, 1, 3, 1, 0, 0), (11, 1, 3, 1, 0, 0), (12, 28, 5, 23, 0, 0), (15, 2, 0, 1, 0, 0), (16, 1, 1, 1, 0, 0), (17, 44, 2579, 57, 2, 0), (20, 27, 28, 0, 0, 0), (23, 2, 0, 1, 0, 0), (24, 1, 1, 1, 0, 0), (25, 44, 2563, 56, 2, 0), (28, 10, 0, 0, 0, 0), (29, 51, 0, 0, 0, 0)]
def e_in_62 : List (Nat × Instr × Nat) := [(0, .iload_n 2, 1), (1, .ifCond .eq 10, 3), (4, .iload_n 1, 1), (5, .invokestatic 62, 3), (8, .ifCond .ne 18, 3), (11, .iload_n 3, 1), (12, .ifCond .gt 12, 3), (15, .iload 4, 2), (17, .ifCond .lt 7, 3), (20, .iconst 1, 1), (21, .goto 4, 3), (24, .iconst 0, 1), (25, .ireturn, 1), (26, .aload_n 0, 1), (27, .getfield 22, 3), (30, .iload_n 1, 1), (31, .aload_n 0, 1), (32, .getfield 22, 3), (35, .iload_n 1, 1), (36, .iaload, 1), (37, .iload_n 2, 1), (38, .ifCond .le 7, 3), (41, .iload_n 3, 1), (42, .goto 5, 3), (45, .iload 4, 2), (47, .iload_n 2, 1), (48, .invokestatic 112, 3), (51, .invokestatic 115, 3), (54, .iastore, 1), (55, .aload_n 0, 1), (56, .getfield 25, 3), (59, .iload_n 1, 1), (60, .aload_n 0, 1), (61, .getfield 25, 3), (64, .iload_n 1, 1), (65, .iaload, 1), (66, .iload_n 2, 1), (67, .ifCond .le 8, 3), (70, .iload 4, 2), (72, .goto 4, 3), (75, .iload_n 3, 1), (76, .iload_n 2, 1), (77, .invokestatic 120, 3), (80, .invokestatic 123, 3), (83, .iastore, 1), (84, .aload_n 0, 1), (85, .getfield 22, 3), (88, .iload_n 1, 1), (89, .iaload, 1), (90, .aload_n 0, 1), (91, .getfield 25, 3), (94, .iload_n 1, 1), (95, .iaload, 1), (96, .if_icmp .gt 7, 3), (99, .iconst 1, 1), (100, .goto 4, 3), (103, .iconst 0, 1), (104, .ireturn, 1)]
/-- EvenWheel.Readings.narrowCabin(IIII)Z -/
def e_pg_62 : List (Nat × e_PI) := [(0, 1, 2, 1, 0, 0), (1, 28, 0, 11, 0, 0), (4, 1, 1, 1, 0, 0), (5, 44, 2399, 52, 1, 0), (8, 28, 1, 26, 0, 0), (11, 1, 3, 1, 0, 0), (12, 28, 4, 24, 0, 0), (15, 1, 4, 2, 0, 0), (17, 28, 2, 24, 0, 0), (20, 0, 1, 0, 0, 1), (21, 27, 25, 0, 0, 0), (24, 0, 1, 0, 0, 0), (25, 52, 0, 0, 0, 0), (26, 2, 0, 1, 0, 0), (27, 30, 33, 3, 3, 0), (30, 1, 1, 1, 0, 0), (31, 2, 0, 1, 0, 0), (32, 30, 33, 3, 3, 0), (35, 1, 1, 1, 0, 0), (36, 32, 0, 0, 0, 0), (37, 1, 2, 1, 0, 0), (38, 28, 5, 45, 0, 0), (41, 1, 3, 1, 0, 0), (42, 27, 47, 0, 0, 0), (45, 1, 4, 2, 0, 0), (47, 1, 2, 1, 0, 0), (48, 44, 2607, 64, 2, 0), (51, 44, 2623, 265, 2, 0), (54, 33, 0, 0, 0, 0), (55, 2, 0, 1, 0, 0), (56, 30, 34, 3, 4, 0), (59, 1, 1, 1, 0, 0), (60, 2, 0, 1, 0, 0), (61, 30, 34, 3, 4, 0), (64, 1, 1, 1, 0, 0), (65, 32, 0, 0, 0, 0), (66, 1, 2, 1, 0, 0), (67, 28, 5, 75, 0, 0), (70, 1, 4, 2, 0, 0), (72, 27, 76, 0, 0, 0), (75, 1, 3, 1, 0, 0), (76, 1, 2, 1, 0, 0), (77, 44, 2639, 63, 2, 0), (80, 44, 2655, 266, 2, 0), (83, 33, 0, 0, 0, 0), (84, 2, 0, 1, 0, 0), (85, 30, 33, 3, 3, 0), (88, 1, 1, 1, 0, 0), (89, 32, 0, 0, 0, 0), (90, 2, 0, 1, 0, 0), (91, 30, 34, 3, 4, 0), (94, 1, 1, 1, 0, 0), (95, 32, 0, 0, 0, 0), (96, 29, 4, 103, 0, 0), (99, 0, 1, 0, 0, 1), (100, 27, 104, 0, 0, 0), (103, 0, 1, 0, 0, 0), (104, 52, 0, 0, 0, 0)]
def e_in_63 : List (Nat × Instr × Nat) := [(0, .iload_n 1, 1), (1, .ifCond .ne 7, 3), (4, .iconst 0, 1), (5, .goto 8, 3), (8, .iload_n 0, 1), (9, .iload_n 1, 1), (10, .invokestatic 126, 3), (13, .ireturn, 1)]
/-- EvenWheel.Readings.dividedDown(II)I -/
def e_pg_63 : List (Nat × e_PI) := [(0, 1, 1, 1, 0, 0), (1, 28, 1, 8, 0, 0), (4, 0, 1, 0, 0, 0), (5, 27, 13, 0, 0, 0), (8, 1, 0, 1, 0, 0), (9, 1, 1, 1, 0, 0), (10, 44, 2671, 263, 2, 0), (13, 51, 0, 0, 0, 0)]
def e_in_64 : List (Nat × Instr × Nat) := [(0, .iload_n 0, 1), (1, .ineg, 1), (2, .iload_n 1, 1), (3, .invokestatic 120, 3), (6, .ineg, 1), (7, .ireturn, 1)]
/-- EvenWheel.Readings.dividedUp(II)I -/
def e_pg_64 : List (Nat × e_PI) := [(0, 1, 0, 1, 0, 0), (1, 11, 0, 0, 0, 0), (2, 1, 1, 1, 0, 0), (3, 44, 2639, 63, 2, 0), (6, 11, 0, 0, 0, 0), (7, 51, 0, 0, 0, 0)]
def e_in_65 : List (Nat × Instr × Nat) := [(0, .iconst 0, 1), (1, .istore_n 1, 1), (2, .iconst 0, 1), (3, .istore_n 2, 1), (4, .iload_n 2, 1), (5, .aload_n 0, 1), (6, .getfield 9, 3), (9, .invokevirtual 89, 3), (12, .if_icmp .ge 39, 3), (15, .aload_n 0, 1), (16, .getfield 9, 3), (19, .iload_n 2, 1), (20, .invokevirtual 129, 3), (23, .istore_n 3, 1), (24, .iload_n 3, 1), (25, .aload_n 0, 1), (26, .iload_n 2, 1), (27, .invokevirtual 106, 3), (30, .if_icmp .lt 15, 3), (33, .iload_n 3, 1), (34, .aload_n 0, 1), (35, .iload_n 2, 1), (36, .invokevirtual 109, 3), (39, .if_icmp .gt 6, 3), (42, .iinc 1 1, 3), (45, .iinc 2 1, 3), (48, .goto (-44), 3), (51, .iload_n 1, 1), (52, .ireturn, 1)]
/-- EvenWheel.Readings.countAgreeing()I -/
def e_pg_65 : List (Nat × e_PI) := [(0, 0, 1, 0, 0, 0), (1, 4, 1, 1, 0, 0), (2, 0, 1, 0, 0, 0), (3, 4, 2, 1, 0, 0), (4, 1, 2, 1, 0, 0), (5, 2, 0, 1, 0, 0), (6, 30, 30, 3, 0, 0), (9, 44, 2489, 133, 1, 0), (12, 29, 3, 51, 0, 0), (15, 2, 0, 1, 0, 0), (16, 30, 30, 3, 0, 0), (19, 1, 2, 1, 0, 0), (20, 44, 2681, 145, 2, 0), (23, 4, 3, 1, 0, 0), (24, 1, 3, 1, 0, 0), (25, 2, 0, 1, 0, 0), (26, 1, 2, 1, 0, 0), (27, 44, 2563, 56, 2, 0), (30, 29, 2, 45, 0, 0), (33, 1, 3, 1, 0, 0), (34, 2, 0, 1, 0, 0), (35, 1, 2, 1, 0, 0), (36, 44, 2579, 57, 2, 0), (39, 29, 4, 45, 0, 0), (42, 7, 1, 0, 0, 1), (45, 7, 2, 0, 0, 1), (48, 27, 4, 0, 0, 0), (51, 1, 1, 1, 0, 0), (52, 51, 0, 0, 0, 0)]
def e_in_66 : List (Nat × Instr × Nat) := [(0, .iconst 0, 1), (1, .istore_n 3, 1), (2, .iload_n 3, 1), (3, .aload_n 0, 1), (4, .getfield 9, 3), (7, .invokevirtual 89, 3), (10, .if_icmp .ge 37, 3), (13, .iload_n 3, 1), (14, .bipush 30, 2), (16, .if_icmp .ge 31, 3), (19, .lload_n 1, 1), (20, .aload_n 0, 1), (21, .getfield 15, 3), (24, .iload_n 3, 1), (25, .iaload, 1), (26, .i2l, 1), (27, .invokestatic 132, 3), (30, .aload_n 0, 1), (31, .getfield 19, 3), (34, .iload_n 3, 1), (35, .iaload, 1), (36, .i2l, 1), (37, .invokestatic 132, 3), (40, .lstore_n 1, 1), (41, .iinc 3 1, 3), (44, .goto (-42), 3), (47, .iconst 0, 1), (48, .istore_n 3, 1), (49, .iload_n 3, 1), (50, .aload_n 0, 1), (51, .getfield 33, 3), (54, .invokevirtual 56, 3), (57, .if_icmp .ge 47, 3), (60, .lload_n 1, 1), (61, .aload_n 0, 1), (62, .getfield 33, 3), (65, .iload_n 3, 1), (66, .invokevirtual 85, 3), (69, .i2l, 1), (70, .invokestatic 132, 3), (73, .aload_n 0, 1), (74, .getfield 37, 3), (77, .iload_n 3, 1), (78, .invokevirtual 85, 3), (81, .i2l, 1), (82, .invokestatic 132, 3), (85, .aload_n 0, 1), (86, .getfield 40, 3), (89, .iload_n 3, 1), (90, .invokevirtual 85, 3), (93, .i2l, 1), (94, .invokestatic 132, 3), (97, .lstore_n 1, 1), (98, .iinc 3 1, 3), (101, .goto (-52), 3), (104, .lload_n 1, 1), (105, .lreturn, 1)]
/-- EvenWheel.Readings.mixInto(J)J -/
def e_pg_66 : List (Nat × e_PI) := [(0, 0, 1, 0, 0, 0), (1, 4, 3, 1, 0, 0), (2, 1, 3, 1, 0, 0), (3, 2, 0, 1, 0, 0), (4, 30, 30, 3, 0, 0), (7, 44, 2489, 133, 1, 0), (10, 29, 3, 47, 0, 0), (13, 1, 3, 1, 0, 0), (14, 0, 2, 0, 0, 30), (16, 29, 3, 47, 0, 0), (19, 3, 1, 1, 0, 0), (20, 2, 0, 1, 0, 0), (21, 30, 31, 3, 1, 0), (24, 1, 3, 1, 0, 0), (25, 32, 0, 0, 0, 0), (26, 19, 0, 0, 0, 0), (27, 44, 2703, 191, 2, 0), (30, 2, 0, 1, 0, 0), (31, 30, 32, 3, 2, 0), (34, 1, 3, 1, 0, 0), (35, 32, 0, 0, 0, 0), (36, 19, 0, 0, 0, 0), (37, 44, 2703, 191, 2, 0), (40, 6, 1, 1, 0, 0), (41, 7, 3, 0, 0, 1), (44, 27, 2, 0, 0, 0), (47, 0, 1, 0, 0, 0), (48, 4, 3, 1, 0, 0), (49, 1, 3, 1, 0, 0), (50, 2, 0, 1, 0, 0), (51, 30, 35, 3, 5, 0), (54, 44, 2359, 111, 1, 0), (57, 29, 3, 104, 0, 0), (60, 3, 1, 1, 0, 0), (61, 2, 0, 1, 0, 0), (62, 30, 35, 3, 5, 0), (65, 1, 3, 1, 0, 0), (66, 44, 2471, 113, 2, 0), (69, 19, 0, 0, 0, 0), (70, 44, 2703, 191, 2, 0), (73, 2, 0, 1, 0, 0), (74, 30, 36, 3, 6, 0), (77, 1, 3, 1, 0, 0), (78, 44, 2471, 113, 2, 0), (81, 19, 0, 0, 0, 0), (82, 44, 2703, 191, 2, 0), (85, 2, 0, 1, 0, 0), (86, 30, 37, 3, 7, 0), (89, 1, 3, 1, 0, 0), (90, 44, 2471, 113, 2, 0), (93, 19, 0, 0, 0, 0), (94, 44, 2703, 191, 2, 0), (97, 6, 1, 1, 0, 0), (98, 7, 3, 0, 0, 1), (101, 27, 49, 0, 0, 0), (104, 3, 1, 1, 0, 0), (105, 53, 0, 0, 0, 0)]
def e_in_67 : List (Nat × Instr × Nat) := [(0, .aload_n 0, 1), (1, .invokespecial 1, 3), (4, .aload_n 0, 1), (5, .aload_n 1, 1), (6, .putfield 7, 3), (9, .aload_n 0, 1), (10, .aload_n 2, 1), (11, .putfield 13, 3), (14, .aload_n 0, 1), (15, .iconst 1, 1), (16, .putfield 17, 3), (19, .return_, 1)]
/-- EvenWheel.Ride.init(LEvenWheel.Wheel LEvenWheel.Rules )V -/
def e_pg_67 : List (Nat × e_PI) := [(0, 2, 0, 1, 0, 0), (1, 46, 169, 0, 0, 0), (4, 2, 0, 1, 0, 0), (5, 2, 1, 1, 0, 0), (6, 31, 38, 4, 0, 2), (9, 2, 0, 1, 0, 0), (10, 2, 2, 1, 0, 0), (11, 31, 39, 4, 1, 2), (14, 2, 0, 1, 0, 0), (15, 0, 1, 0, 0, 1), (16, 31, 40, 4, 4, 1), (19, 50, 0, 0, 0, 0)]
def e_in_68 : List (Nat × Instr × Nat) := [(0, .aload_n 0, 1), (1, .iconst 0, 1), (2, .putfield 21, 3), (5, .aload_n 0, 1), (6, .iconst 0, 1), (7, .putfield 25, 3), (10, .return_, 1)]
/-- EvenWheel.Ride.startAnew()V -/
def e_pg_68 : List (Nat × e_PI) := [(0, 2, 0, 1, 0, 0), (1, 0, 1, 0, 0, 0), (2, 31, 41, 4, 2, 0), (5, 2, 0, 1, 0, 0), (6, 0, 1, 0, 0, 0), (7, 31, 42, 4, 3, 0), (10, 50, 0, 0, 0, 0)]
def e_in_69 : List (Nat × Instr × Nat) := [(0, .aload_n 0, 1), (1, .getfield 21, 3), (4, .ireturn, 1)]
/-- EvenWheel.Ride.warmthNow()I -/
def e_pg_69 : List (Nat × e_PI) := [(0, 2, 0, 1, 0, 0), (1, 30, 41, 4, 2, 0), (4, 51, 0, 0, 0, 0)]
def e_in_70 : List (Nat × Instr × Nat) := [(0, .aload_n 0, 1), (1, .getfield 25, 3), (4, .ireturn, 1)]
/-- EvenWheel.Ride.stepsDone()I -/
def e_pg_70 : List (Nat × e_PI) := [(0, 2, 0, 1, 0, 0), (1, 30, 42, 4, 3, 0), (4, 51, 0, 0, 0, 0)]
def e_in_71 : List (Nat × Instr × Nat) := [(0, .aload_n 0, 1), (1, .getfield 17, 3), (4, .ireturn, 1)]
/-- EvenWheel.Ride.isDriven()Z -/
def e_pg_71 : List (Nat × e_PI) := [(0, 2, 0, 1, 0, 0), (1, 30, 40, 4, 4, 0), (4, 52, 0, 0, 0, 0)]
def e_in_72 : List (Nat × Instr × Nat) := [(0, .aload_n 0, 1), (1, .getfield 17, 3), (4, .istore_n 2, 1), (5, .aload_n 0, 1), (6, .iload_n 1, 1), (7, .putfield 17, 3), (10, .iload_n 2, 1), (11, .ireturn, 1)]
/-- EvenWheel.Ride.setDriven(Z)Z -/
def e_pg_72 : List (Nat × e_PI) := [(0, 2, 0, 1, 0, 0), (1, 30, 40, 4, 4, 0), (4, 4, 2, 1, 0, 0), (5, 2, 0, 1, 0, 0), (6, 1, 1, 1, 0, 0), (7, 31, 40, 4, 4, 1), (10, 1, 2, 1, 0, 0), (11, 52, 0, 0, 0, 0)]
def e_in_73 : List (Nat × Instr × Nat) := [(0, .aload_n 0, 1), (1, .getfield 7, 3), (4, .aload_n 0, 1), (5, .getfield 7, 3), (8, .aload_n 0, 1), (9, .getfield 7, 3), (12, .invokevirtual 28, 3), (15, .invokevirtual 34, 3), (18, .invokevirtual 38, 3), (21, .ireturn, 1)]
/-- EvenWheel.Ride.leanAfterStep()I -/
def e_pg_73 : List (Nat × e_PI) := [(0, 2, 0, 1, 0, 0), (1, 30, 38, 4, 0, 0), (4, 2, 0, 1, 0, 0), (5, 30, 38, 4, 0, 0), (8, 2, 0, 1, 0, 0), (9, 30, 38, 4, 0, 0), (12, 44, 2729, 134, 1, 0), (15, 44, 2745, 136, 2, 0), (18, 44, 2761, 147, 2, 0), (21, 51, 0, 0, 0, 0)]
def e_in_74 : List (Nat × Instr × Nat) := [(0, .aload_n 0, 1), (1, .invokevirtual 41, 3), (4, .istore_n 1, 1), (5, .iload_n 1, 1), (6, .ifCond .ge 14, 3), (9, .aload_n 0, 1), (10, .getfield 21, 3), (13, .iload_n 1, 1), (14, .ineg, 1), (15, .bipush 100, 2), (17, .idiv, 1), (18, .iadd, 1), (19, .ireturn, 1), (20, .iconst 0, 1), (21, .aload_n 0, 1), (22, .getfield 21, 3), (25, .aload_n 0, 1), (26, .getfield 13, 3), (29, .iconst 2, 1), (30, .invokevirtual 46, 3), (33, .isub, 1), (34, .invokestatic 49, 3), (37, .ireturn, 1)]
/-- EvenWheel.Ride.warmthAfterStep()I -/
def e_pg_74 : List (Nat × e_PI) := [(0, 2, 0, 1, 0, 0), (1, 44, 2772, 73, 1, 0), (4, 4, 1, 1, 0, 0), (5, 1, 1, 1, 0, 0), (6, 28, 3, 20, 0, 0), (9, 2, 0, 1, 0, 0), (10, 30, 41, 4, 2, 0), (13, 1, 1, 1, 0, 0), (14, 11, 0, 0, 0, 0), (15, 0, 2, 0, 0, 100), (17, 12, 0, 0, 0, 0), (18, 8, 0, 0, 0, 0), (19, 51, 0, 0, 0, 0), (20, 0, 1, 0, 0, 0), (21, 2, 0, 1, 0, 0), (22, 30, 41, 4, 2, 0), (25, 2, 0, 1, 0, 0), (26, 30, 39, 4, 1, 0), (29, 0, 1, 0, 0, 2), (30, 44, 2792, 125, 2, 0), (33, 9, 0, 0, 0, 0), (34, 44, 2815, 265, 2, 0), (37, 51, 0, 0, 0, 0)]
def e_in_75 : List (Nat × Instr × Nat) := [(0, .aload_n 0, 1), (1, .invokevirtual 41, 3), (4, .istore_n 1, 1), (5, .iload_n 1, 1), (6, .invokestatic 55, 3), (9, .aload_n 0, 1), (10, .getfield 13, 3), (13, .iconst 0, 1), (14, .invokevirtual 46, 3), (17, .if_icmp .le 5, 3), (20, .iconst 1, 1), (21, .ireturn, 1), (22, .aload_n 0, 1), (23, .invokevirtual 58, 3), (26, .aload_n 0, 1), (27, .getfield 13, 3), (30, .iconst 1, 1), (31, .invokevirtual 46, 3), (34, .if_icmp .le 5, 3), (37, .iconst 2, 1), (38, .ireturn, 1), (39, .iload_n 1, 1), (40, .ifCond .le 14, 3), (43, .aload_n 0, 1), (44, .getfield 17, 3), (47, .ifCond .ne 7, 3), (50, .iconst 3, 1), (51, .goto 4, 3), (54, .iconst 0, 1), (55, .ireturn, 1)]
/-- EvenWheel.Ride.whyNot()I -/
def e_pg_75 : List (Nat × e_PI) := [(0, 2, 0, 1, 0, 0), (1, 44, 2772, 73, 1, 0), (4, 4, 1, 1, 0, 0), (5, 1, 1, 1, 0, 0), (6, 44, 2831, 264, 1, 0), (9, 2, 0, 1, 0, 0), (10, 30, 39, 4, 1, 0), (13, 0, 1, 0, 0, 0), (14, 44, 2792, 125, 2, 0), (17, 29, 5, 22, 0, 0), (20, 0, 1, 0, 0, 1), (21, 51, 0, 0, 0, 0), (22, 2, 0, 1, 0, 0), (23, 44, 2836, 74, 1, 0), (26, 2, 0, 1, 0, 0), (27, 30, 39, 4, 1, 0), (30, 0, 1, 0, 0, 1), (31, 44, 2792, 125, 2, 0), (34, 29, 5, 39, 0, 0), (37, 0, 1, 0, 0, 2), (38, 51, 0, 0, 0, 0), (39, 1, 1, 1, 0, 0), (40, 28, 5, 54, 0, 0), (43, 2, 0, 1, 0, 0), (44, 30, 40, 4, 4, 0), (47, 28, 1, 54, 0, 0), (50, 0, 1, 0, 0, 3), (51, 27, 55, 0, 0, 0), (54, 0, 1, 0, 0, 0), (55, 51, 0, 0, 0, 0)]
def e_in_76 : List (Nat × Instr × Nat) := [(0, .aload_n 0, 1), (1, .invokevirtual 61, 3), (4, .ifCond .eq 5, 3), (7, .iconst 0, 1), (8, .ireturn, 1), (9, .aload_n 0, 1), (10, .aload_n 0, 1), (11, .invokevirtual 58, 3), (14, .putfield 21, 3), (17, .aload_n 0, 1), (18, .getfield 7, 3), (21, .aload_n 0, 1), (22, .getfield 7, 3), (25, .aload_n 0, 1), (26, .getfield 7, 3), (29, .invokevirtual 28, 3), (32, .invokevirtual 34, 3), (35, .invokevirtual 64, 3), (38, .aload_n 0, 1), (39, .dup, 1), (40, .getfield 25, 3), (43, .iconst 1, 1), (44, .iadd, 1), (45, .putfield 25, 3), (48, .iconst 1, 1), (49, .ireturn, 1)]
/-- EvenWheel.Ride.goOn()Z -/
def e_pg_76 : List (Nat × e_PI) := [(0, 2, 0, 1, 0, 0), (1, 44, 2852, 75, 1, 0), (4, 28, 0, 9, 0, 0), (7, 0, 1, 0, 0, 0), (8, 52, 0, 0, 0, 0), (9, 2, 0, 1, 0, 0), (10, 2, 0, 1, 0, 0), (11, 44, 2836, 74, 1, 0), (14, 31, 41, 4, 2, 0), (17, 2, 0, 1, 0, 0), (18, 30, 38, 4, 0, 0), (21, 2, 0, 1, 0, 0), (22, 30, 38, 4, 0, 0), (25, 2, 0, 1, 0, 0), (26, 30, 38, 4, 0, 0), (29, 44, 2729, 134, 1, 0), (32, 44, 2745, 136, 2, 0), (35, 44, 2873, 135, 2, 0), (38, 2, 0, 1, 0, 0), (39, 24, 0, 0, 0, 0), (40, 30, 42, 4, 3, 0), (43, 0, 1, 0, 0, 1), (44, 8, 0, 0, 0, 0), (45, 31, 42, 4, 3, 0), (48, 0, 1, 0, 0, 1), (49, 52, 0, 0, 0, 0)]
def e_in_77 : List (Nat × Instr × Nat) := [(0, .aload_n 0, 1), (1, .invokespecial 3, 3), (4, .aload_n 0, 1), (5, .aload_n 1, 1), (6, .putfield 9, 3), (9, .aload_n 0, 1), (10, .aload_n 2, 1), (11, .putfield 15, 3), (14, .aload_n 0, 1), (15, .new 19, 3), (18, .dup, 1), (19, .invokespecial 21, 3), (22, .putfield 22, 3), (25, .aload_n 0, 1), (26, .new 26, 3), (29, .dup, 1), (30, .bipush 30, 2), (32, .invokespecial 28, 3), (35, .putfield 31, 3), (38, .aload_n 0, 1), (39, .new 26, 3), (42, .dup, 1), (43, .iconst 0, 1), (44, .invokespecial 28, 3), (47, .putfield 35, 3), (50, .aload_n 0, 1), (51, .bipush 30, 2), (53, .anewarray 26, 3), (56, .putfield 38, 3), (59, .iconst 0, 1), (60, .istore_n 3, 1), (61, .iload_n 3, 1), (62, .bipush 30, 2), (64, .if_icmp .ge 24, 3), (67, .aload_n 0, 1), (68, .getfield 38, 3), (71, .iload_n 3, 1), (72, .new 26, 3), (75, .dup, 1), (76, .bipush 6, 2), (78, .invokespecial 28, 3), (81, .aastore, 1), (82, .iinc 3 1, 3), (85, .goto (-24), 3), (88, .return_, 1)]
/-- EvenWheel.Riders.init(LEvenWheel.Wheel LEvenWheel.Rules )V -/
def e_pg_77 : List (Nat × e_PI) := [(0, 2, 0, 1, 0, 0), (1, 46, 180, 0, 0, 0), (4, 2, 0, 1, 0, 0), (5, 2, 1, 1, 0, 0), (6, 31, 43, 5, 0, 2), (9, 2, 0, 1, 0, 0), (10, 2, 2, 1, 0, 0), (11, 31, 44, 5, 1, 2), (14, 2, 0, 1, 0, 0), (15, 43, 12, 2, 0, 0), (18, 24, 0, 0, 0, 0), (19, 44, 2898, 31, 1, 0), (22, 31, 45, 5, 2, 2), (25, 2, 0, 1, 0, 0), (26, 43, 13, 7, 0, 0), (29, 24, 0, 0, 0, 0), (30, 0, 2, 0, 0, 30), (32, 44, 2919, 110, 2, 0), (35, 31, 46, 5, 3, 2), (38, 2, 0, 1, 0, 0), (39, 43, 13, 7, 0, 0), (42, 24, 0, 0, 0, 0), (43, 0, 1, 0, 0, 0), (44, 44, 2919, 110, 2, 0), (47, 31, 47, 5, 5, 2), (50, 2, 0, 1, 0, 0), (51, 0, 2, 0, 0, 30), (53, 41, 26, 195, 0, 0), (56, 31, 48, 5, 4, 2), (59, 0, 1, 0, 0, 0), (60, 4, 3, 1, 0, 0), (61, 1, 3, 1, 0, 0), (62, 0, 2, 0, 0, 30), (64, 29, 3, 88, 0, 0), (67, 2, 0, 1, 0, 0), (68, 30, 48, 5, 4, 0), (71, 1, 3, 1, 0, 0), (72, 43, 13, 7, 0, 0), (75, 24, 0, 0, 0, 0), (76, 0, 2, 0, 0, 6), (78, 44, 2919, 110, 2, 0), (81, 37, 0, 0, 0, 0), (82, 7, 3, 0, 0, 1), (85, 27, 61, 0, 0, 0), (88, 50, 0, 0, 0, 0)]
def e_in_78 : List (Nat × Instr × Nat) := [(0, .aload_n 0, 1), (1, .getfield 22, 3), (4, .invokevirtual 42, 3), (7, .aload_n 0, 1), (8, .getfield 31, 3), (11, .invokevirtual 45, 3), (14, .iconst 0, 1), (15, .istore_n 1, 1), (16, .iload_n 1, 1), (17, .aload_n 0, 1), (18, .getfield 38, 3), (21, .arraylength, 1), (22, .if_icmp .ge 18, 3), (25, .aload_n 0, 1), (26, .getfield 38, 3), (29, .iload_n 1, 1), (30, .aaload, 1), (31, .invokevirtual 45, 3), (34, .iinc 1 1, 3), (37, .goto (-21), 3), (40, .return_, 1)]
/-- EvenWheel.Riders.startAnew()V -/
def e_pg_78 : List (Nat × e_PI) := [(0, 2, 0, 1, 0, 0), (1, 30, 45, 5, 2, 0), (4, 44, 2930, 35, 1, 0), (7, 2, 0, 1, 0, 0), (8, 30, 46, 5, 3, 0), (11, 44, 2951, 119, 1, 0), (14, 0, 1, 0, 0, 0), (15, 4, 1, 1, 0, 0), (16, 1, 1, 1, 0, 0), (17, 2, 0, 1, 0, 0), (18, 30, 48, 5, 4, 0), (21, 38, 0, 0, 0, 0), (22, 29, 3, 40, 0, 0), (25, 2, 0, 1, 0, 0), (26, 30, 48, 5, 4, 0), (29, 1, 1, 1, 0, 0), (30, 36, 0, 0, 0, 0), (31, 44, 2951, 119, 1, 0), (34, 7, 1, 0, 0, 1), (37, 27, 16, 0, 0, 0), (40, 50, 0, 0, 0, 0)]
def e_in_79 : List (Nat × Instr × Nat) := [(0, .iload_n 1, 1), (1, .ifCond .lt 21, 3), (4, .iload_n 1, 1), (5, .aload_n 0, 1), (6, .getfield 38, 3), (9, .arraylength, 1), (10, .if_icmp .ge 12, 3), (13, .aload_n 0, 1), (14, .getfield 38, 3), (17, .iload_n 1, 1), (18, .aaload, 1), (19, .goto 7, 3), (22, .aload_n 0, 1), (23, .getfield 35, 3), (26, .areturn, 1)]
/-- EvenWheel.Riders.insideOf(I)LEvenWheel.Row  -/
def e_pg_79 : List (Nat × e_PI) := [(0, 1, 1, 1, 0, 0), (1, 28, 2, 22, 0, 0), (4, 1, 1, 1, 0, 0), (5, 2, 0, 1, 0, 0), (6, 30, 48, 5, 4, 0), (9, 38, 0, 0, 0, 0), (10, 29, 3, 22, 0, 0), (13, 2, 0, 1, 0, 0), (14, 30, 48, 5, 4, 0), (17, 1, 1, 1, 0, 0), (18, 36, 0, 0, 0, 0), (19, 27, 26, 0, 0, 0), (22, 2, 0, 1, 0, 0), (23, 30, 47, 5, 5, 0), (26, 54, 0, 0, 0, 0)]
def e_in_80 : List (Nat × Instr × Nat) := [(0, .aload_n 0, 1), (1, .getfield 22, 3), (4, .invokevirtual 48, 3), (7, .ireturn, 1)]
/-- EvenWheel.Riders.partiesCome()I -/
def e_pg_80 : List (Nat × e_PI) := [(0, 2, 0, 1, 0, 0), (1, 30, 45, 5, 2, 0), (4, 44, 2962, 36, 1, 0), (7, 51, 0, 0, 0, 0)]
def e_in_81 : List (Nat × Instr × Nat) := [(0, .aload_n 0, 1), (1, .getfield 22, 3), (4, .iload_n 1, 1), (5, .iload_n 2, 1), (6, .invokevirtual 52, 3), (9, .ireturn, 1)]
/-- EvenWheel.Riders.tellParty(II)I -/
def e_pg_81 : List (Nat × e_PI) := [(0, 2, 0, 1, 0, 0), (1, 30, 45, 5, 2, 0), (4, 1, 1, 1, 0, 0), (5, 1, 2, 1, 0, 0), (6, 44, 2978, 47, 3, 0), (9, 51, 0, 0, 0, 0)]
def e_in_82 : List (Nat × Instr × Nat) := [(0, .aload_n 0, 1), (1, .iload_n 1, 1), (2, .invokevirtual 56, 3), (5, .invokevirtual 60, 3), (8, .ireturn, 1)]
/-- EvenWheel.Riders.partiesIn(I)I -/
def e_pg_82 : List (Nat × e_PI) := [(0, 2, 0, 1, 0, 0), (1, 1, 1, 1, 0, 0), (2, 44, 2997, 79, 2, 0), (5, 44, 3015, 111, 1, 0), (8, 51, 0, 0, 0, 0)]
def e_in_83 : List (Nat × Instr × Nat) := [(0, .aload_n 0, 1), (1, .iload_n 1, 1), (2, .invokevirtual 56, 3), (5, .iload_n 2, 1), (6, .invokevirtual 61, 3), (9, .ireturn, 1)]
/-- EvenWheel.Riders.partyIn(II)I -/
def e_pg_83 : List (Nat × e_PI) := [(0, 2, 0, 1, 0, 0), (1, 1, 1, 1, 0, 0), (2, 44, 2997, 79, 2, 0), (5, 1, 2, 1, 0, 0), (6, 44, 3031, 113, 2, 0), (9, 51, 0, 0, 0, 0)]
def e_in_84 : List (Nat × Instr × Nat) := [(0, .aload_n 0, 1), (1, .getfield 22, 3), (4, .aload_n 0, 1), (5, .iload_n 1, 1), (6, .invokevirtual 56, 3), (9, .invokevirtual 65, 3), (12, .ireturn, 1)]
/-- EvenWheel.Riders.personsIn(I)I -/
def e_pg_84 : List (Nat × e_PI) := [(0, 2, 0, 1, 0, 0), (1, 30, 45, 5, 2, 0), (4, 2, 0, 1, 0, 0), (5, 1, 1, 1, 0, 0), (6, 44, 2997, 79, 2, 0), (9, 44, 3042, 40, 2, 0), (12, 51, 0, 0, 0, 0)]
def e_in_85 : List (Nat × Instr × Nat) := [(0, .iconst 0, 1), (1, .istore_n 1, 1), (2, .iconst 0, 1), (3, .istore_n 2, 1), (4, .iload_n 2, 1), (5, .aload_n 0, 1), (6, .getfield 9, 3), (9, .invokevirtual 69, 3), (12, .if_icmp .ge 17, 3), (15, .iload_n 1, 1), (16, .aload_n 0, 1), (17, .iload_n 2, 1), (18, .invokevirtual 72, 3), (21, .iadd, 1), (22, .istore_n 1, 1), (23, .iinc 2 1, 3), (26, .goto (-22), 3), (29, .iload_n 1, 1), (30, .ireturn, 1)]
/-- EvenWheel.Riders.personsUp()I -/
def e_pg_85 : List (Nat × e_PI) := [(0, 0, 1, 0, 0, 0), (1, 4, 1, 1, 0, 0), (2, 0, 1, 0, 0, 0), (3, 4, 2, 1, 0, 0), (4, 1, 2, 1, 0, 0), (5, 2, 0, 1, 0, 0), (6, 30, 43, 5, 0, 0), (9, 44, 3065, 133, 1, 0), (12, 29, 3, 29, 0, 0), (15, 1, 1, 1, 0, 0), (16, 2, 0, 1, 0, 0), (17, 1, 2, 1, 0, 0), (18, 44, 3077, 84, 2, 0), (21, 8, 0, 0, 0, 0), (22, 4, 1, 1, 0, 0), (23, 7, 2, 0, 0, 1), (26, 27, 4, 0, 0, 0), (29, 1, 1, 1, 0, 0), (30, 51, 0, 0, 0, 0)]
def e_in_86 : List (Nat × Instr × Nat) := [(0, .aload_n 0, 1), (1, .getfield 22, 3), (4, .aload_n 0, 1), (5, .getfield 31, 3), (8, .invokevirtual 65, 3), (11, .ireturn, 1)]
/-- EvenWheel.Riders.personsWaiting()I -/
def e_pg_86 : List (Nat × e_PI) := [(0, 2, 0, 1, 0, 0), (1, 30, 45, 5, 2, 0), (4, 2, 0, 1, 0, 0), (5, 30, 46, 5, 3, 0), (8, 44, 3042, 40, 2, 0), (11, 51, 0, 0, 0, 0)]
def e_in_87 : List (Nat × Instr × Nat) := [(0, .aload_n 0, 1), (1, .iload_n 1, 1), (2, .invokevirtual 56, 3), (5, .astore_n 2, 1), (6, .iconst 0, 1), (7, .istore_n 3, 1), (8, .iload_n 3, 1), (9, .aload_n 2, 1), (10, .invokevirtual 60, 3), (13, .if_icmp .ge 26, 3), (16, .aload_n 0, 1), (17, .getfield 22, 3), (20, .aload_n 2, 1), (21, .iload_n 3, 1), (22, .invokevirtual 61, 3), (25, .invokevirtual 75, 3), (28, .ifCond .eq 5, 3), (31, .iconst 1, 1), (32, .ireturn, 1), (33, .iinc 3 1, 3), (36, .goto (-28), 3), (39, .iconst 0, 1), (40, .ireturn, 1)]
/-- EvenWheel.Riders.isAlone(I)Z -/
def e_pg_87 : List (Nat × e_PI) := [(0, 2, 0, 1, 0, 0), (1, 1, 1, 1, 0, 0), (2, 44, 2997, 79, 2, 0), (5, 5, 2, 1, 0, 0), (6, 0, 1, 0, 0, 0), (7, 4, 3, 1, 0, 0), (8, 1, 3, 1, 0, 0), (9, 2, 2, 1, 0, 0), (10, 44, 3015, 111, 1, 0), (13, 29, 3, 39, 0, 0), (16, 2, 0, 1, 0, 0), (17, 30, 45, 5, 2, 0), (20, 2, 2, 1, 0, 0), (21, 1, 3, 1, 0, 0), (22, 44, 3031, 113, 2, 0), (25, 44, 3090, 42, 2, 0), (28, 28, 0, 33, 0, 0), (31, 0, 1, 0, 0, 1), (32, 52, 0, 0, 0, 0), (33, 7, 3, 0, 0, 1), (36, 27, 8, 0, 0, 0), (39, 0, 1, 0, 0, 0), (40, 52, 0, 0, 0, 0)]
def e_in_88 : List (Nat × Instr × Nat) := [(0, .aload_n 0, 1), (1, .aload_n 0, 1), (2, .getfield 9, 3), (5, .invokevirtual 79, 3), (8, .invokevirtual 56, 3), (11, .astore_n 1, 1), (12, .iconst 0, 1), (13, .istore_n 2, 1), (14, .iload_n 2, 1), (15, .aload_n 1, 1), (16, .invokevirtual 60, 3), (19, .if_icmp .ge 21, 3), (22, .aload_n 0, 1), (23, .getfield 22, 3), (26, .aload_n 1, 1), (27, .iload_n 2, 1), (28, .invokevirtual 61, 3), (31, .invokevirtual 82, 3), (34, .iinc 2 1, 3), (37, .goto (-23), 3), (40, .return_, 1)]
/-- EvenWheel.Riders.showTop()V -/
def e_pg_88 : List (Nat × e_PI) := [(0, 2, 0, 1, 0, 0), (1, 2, 0, 1, 0, 0), (2, 30, 43, 5, 0, 0), (5, 44, 3113, 141, 1, 0), (8, 44, 2997, 79, 2, 0), (11, 5, 1, 1, 0, 0), (12, 0, 1, 0, 0, 0), (13, 4, 2, 1, 0, 0), (14, 1, 2, 1, 0, 0), (15, 2, 1, 1, 0, 0), (16, 44, 3015, 111, 1, 0), (19, 29, 3, 40, 0, 0), (22, 2, 0, 1, 0, 0), (23, 30, 45, 5, 2, 0), (26, 2, 1, 1, 0, 0), (27, 1, 2, 1, 0, 0), (28, 44, 3031, 113, 2, 0), (31, 44, 3122, 44, 2, 0), (34, 7, 2, 0, 0, 1), (37, 27, 14, 0, 0, 0), (40, 50, 0, 0, 0, 0)]
def e_in_89 : List (Nat × Instr × Nat) := [(0, .aload_n 0, 1), (1, .getfield 31, 3), (4, .invokevirtual 85, 3), (7, .ifCond .eq 17, 3), (10, .aload_n 0, 1), (11, .getfield 22, 3), (14, .invokevirtual 89, 3), (17, .ifCond .eq 7, 3), (20, .iconst 1, 1), (21, .goto 4, 3), (24, .iconst 0, 1), (25, .ireturn, 1)]
/-- EvenWheel.Riders.takesMore()Z -/
def e_pg_89 : List (Nat × e_PI) := [(0, 2, 0, 1, 0, 0), (1, 30, 46, 5, 3, 0), (4, 44, 3143, 112, 1, 0), (7, 28, 0, 24, 0, 0), (10, 2, 0, 1, 0, 0), (11, 30, 45, 5, 2, 0), (14, 44, 3154, 37, 1, 0), (17, 28, 0, 24, 0, 0), (20, 0, 1, 0, 0, 1), (21, 27, 25, 0, 0, 0), (24, 0, 1, 0, 0, 0), (25, 52, 0, 0, 0, 0)]
def e_in_90 : List (Nat × Instr × Nat) := [(0, .aload_n 0, 1), (1, .getfield 22, 3), (4, .iload_n 1, 1), (5, .iload_n 2, 1), (6, .iload_n 3, 1), (7, .invokevirtual 90, 3), (10, .istore 4, 2), (12, .aload_n 0, 1), (13, .getfield 31, 3), (16, .iload 4, 2), (18, .invokevirtual 94, 3), (21, .iload 4, 2), (23, .ireturn, 1)]
/-- EvenWheel.Riders.queueUp(III)I -/
def e_pg_90 : List (Nat × e_PI) := [(0, 2, 0, 1, 0, 0), (1, 30, 45, 5, 2, 0), (4, 1, 1, 1, 0, 0), (5, 1, 2, 1, 0, 0), (6, 1, 3, 1, 0, 0), (7, 44, 3170, 38, 4, 0), (10, 4, 4, 2, 0, 0), (12, 2, 0, 1, 0, 0), (13, 30, 46, 5, 3, 0), (16, 1, 4, 2, 0, 0), (18, 44, 3191, 115, 2, 0), (21, 1, 4, 2, 0, 0), (23, 51, 0, 0, 0, 0)]
def e_in_91 : List (Nat × Instr × Nat) := [(0, .aload_n 0, 1), (1, .getfield 31, 3), (4, .iload_n 1, 1), (5, .invokevirtual 61, 3), (8, .ireturn, 1)]
/-- EvenWheel.Riders.waiting(I)I -/
def e_pg_91 : List (Nat × e_PI) := [(0, 2, 0, 1, 0, 0), (1, 30, 46, 5, 3, 0), (4, 1, 1, 1, 0, 0), (5, 44, 3031, 113, 2, 0), (8, 51, 0, 0, 0, 0)]
def e_in_92 : List (Nat × Instr × Nat) := [(0, .aload_n 0, 1), (1, .getfield 9, 3), (4, .invokevirtual 97, 3), (7, .istore_n 2, 1), (8, .aload_n 0, 1), (9, .iload_n 2, 1), (10, .invokevirtual 72, 3), (13, .aload_n 0, 1), (14, .getfield 22, 3), (17, .iload_n 1, 1), (18, .invokevirtual 100, 3), (21, .iadd, 1), (22, .bipush 6, 2), (24, .if_icmp .le 5, 3), (27, .iconst 0, 1), (28, .ireturn, 1), (29, .aload_n 0, 1), (30, .iload_n 2, 1), (31, .invokevirtual 103, 3), (34, .ifCond .le 24, 3), (37, .aload_n 0, 1), (38, .iload_n 2, 1), (39, .invokevirtual 106, 3), (42, .ifCond .ne 14, 3), (45, .aload_n 0, 1), (46, .getfield 22, 3), (49, .iload_n 1, 1), (50, .invokevirtual 75, 3), (53, .ifCond .eq 5, 3), (56, .iconst 0, 1), (57, .ireturn, 1), (58, .aload_n 0, 1), (59, .getfield 9, 3), (62, .iload_n 2, 1), (63, .aload_n 0, 1), (64, .getfield 22, 3), (67, .iload_n 1, 1), (68, .invokevirtual 109, 3), (71, .invokevirtual 112, 3), (74, .aload_n 0, 1), (75, .getfield 15, 3), (78, .iconst 0, 1), (79, .invokevirtual 117, 3), (82, .if_icmp .gt 7, 3), (85, .iconst 1, 1), (86, .goto 4, 3), (89, .iconst 0, 1), (90, .ireturn, 1)]
/-- EvenWheel.Riders.mayBoard(I)Z -/
def e_pg_92 : List (Nat × e_PI) := [(0, 2, 0, 1, 0, 0), (1, 30, 43, 5, 0, 0), (4, 44, 3209, 138, 1, 0), (7, 4, 2, 1, 0, 0), (8, 2, 0, 1, 0, 0), (9, 1, 2, 1, 0, 0), (10, 44, 3077, 84, 2, 0), (13, 2, 0, 1, 0, 0), (14, 30, 45, 5, 2, 0), (17, 1, 1, 1, 0, 0), (18, 44, 3218, 39, 2, 0), (21, 8, 0, 0, 0, 0), (22, 0, 2, 0, 0, 6), (24, 29, 5, 29, 0, 0), (27, 0, 1, 0, 0, 0), (28, 52, 0, 0, 0, 0), (29, 2, 0, 1, 0, 0), (30, 1, 2, 1, 0, 0), (31, 44, 3237, 82, 2, 0), (34, 28, 5, 58, 0, 0), (37, 2, 0, 1, 0, 0), (38, 1, 2, 1, 0, 0), (39, 44, 3253, 87, 2, 0), (42, 28, 1, 56, 0, 0), (45, 2, 0, 1, 0, 0), (46, 30, 45, 5, 2, 0), (49, 1, 1, 1, 0, 0), (50, 44, 3090, 42, 2, 0), (53, 28, 0, 58, 0, 0), (56, 0, 1, 0, 0, 0), (57, 52, 0, 0, 0, 0), (58, 2, 0, 1, 0, 0), (59, 30, 43, 5, 0, 0), (62, 1, 2, 1, 0, 0), (63, 2, 0, 1, 0, 0), (64, 30, 45, 5, 2, 0), (67, 1, 1, 1, 0, 0), (68, 44, 3266, 41, 2, 0), (71, 44, 3289, 149, 3, 0), (74, 2, 0, 1, 0, 0), (75, 30, 44, 5, 1, 0), (78, 0, 1, 0, 0, 0), (79, 44, 3304, 125, 2, 0), (82, 29, 4, 89, 0, 0), (85, 0, 1, 0, 0, 1), (86, 27, 90, 0, 0, 0), (89, 0, 1, 0, 0, 0), (90, 52, 0, 0, 0, 0)]
def e_in_93 : List (Nat × Instr × Nat) := [(0, .aload_n 0, 1), (1, .getfield 15, 3), (4, .iconst 3, 1), (5, .invokevirtual 117, 3), (8, .istore_n 1, 1), (9, .iconst 0, 1), (10, .istore_n 2, 1), (11, .iload_n 2, 1), (12, .aload_n 0, 1), (13, .getfield 31, 3), (16, .invokevirtual 60, 3), (19, .if_icmp .ge 42, 3), (22, .aload_n 0, 1), (23, .getfield 31, 3), (26, .iload_n 2, 1), (27, .invokevirtual 61, 3), (30, .istore_n 3, 1), (31, .aload_n 0, 1), (32, .iload_n 3, 1), (33, .invokevirtual 120, 3), (36, .ifCond .eq 5, 3), (39, .iload_n 2, 1), (40, .ireturn, 1), (41, .aload_n 0, 1), (42, .getfield 22, 3), (45, .iload_n 3, 1), (46, .invokevirtual 123, 3), (49, .iload_n 1, 1), (50, .if_icmp .lt 5, 3), (53, .iconst (-1), 1), (54, .ireturn, 1), (55, .iinc 2 1, 3), (58, .goto (-47), 3), (61, .iconst (-1), 1), (62, .ireturn, 1)]
/-- EvenWheel.Riders.placeOfNext()I -/
def e_pg_93 : List (Nat × e_PI) := [(0, 2, 0, 1, 0, 0), (1, 30, 44, 5, 1, 0), (4, 0, 1, 0, 0, 3), (5, 44, 3304, 125, 2, 0), (8, 4, 1, 1, 0, 0), (9, 0, 1, 0, 0, 0), (10, 4, 2, 1, 0, 0), (11, 1, 2, 1, 0, 0), (12, 2, 0, 1, 0, 0), (13, 30, 46, 5, 3, 0), (16, 44, 3015, 111, 1, 0), (19, 29, 3, 61, 0, 0), (22, 2, 0, 1, 0, 0), (23, 30, 46, 5, 3, 0), (26, 1, 2, 1, 0, 0), (27, 44, 3031, 113, 2, 0), (30, 4, 3, 1, 0, 0), (31, 2, 0, 1, 0, 0), (32, 1, 3, 1, 0, 0), (33, 44, 3317, 92, 2, 0), (36, 28, 0, 41, 0, 0), (39, 1, 2, 1, 0, 0), (40, 51, 0, 0, 0, 0), (41, 2, 0, 1, 0, 0), (42, 30, 45, 5, 2, 0), (45, 1, 3, 1, 0, 0), (46, 44, 3330, 45, 2, 0), (49, 1, 1, 1, 0, 0), (50, 29, 2, 55, 0, 0), (53, 0, 1, 0, 0, -1), (54, 51, 0, 0, 0, 0), (55, 7, 2, 0, 0, 1), (58, 27, 11, 0, 0, 0), (61, 0, 1, 0, 0, -1), (62, 51, 0, 0, 0, 0)]
def e_in_94 : List (Nat × Instr × Nat) := [(0, .aload_n 0, 1), (1, .invokevirtual 126, 3), (4, .istore_n 1, 1), (5, .iload_n 1, 1), (6, .iconst (-1), 1), (7, .if_icmp .ne 5, 3), (10, .iconst (-1), 1), (11, .ireturn, 1), (12, .iconst 0, 1), (13, .istore_n 2, 1), (14, .iload_n 2, 1), (15, .iload_n 1, 1), (16, .if_icmp .ge 24, 3), (19, .aload_n 0, 1), (20, .getfield 22, 3), (23, .aload_n 0, 1), (24, .getfield 31, 3), (27, .iload_n 2, 1), (28, .invokevirtual 61, 3), (31, .invokevirtual 129, 3), (34, .iinc 2 1, 3), (37, .goto (-23), 3), (40, .aload_n 0, 1), (41, .getfield 31, 3), (44, .iload_n 1, 1), (45, .invokevirtual 61, 3), (48, .istore_n 2, 1), (49, .aload_n 0, 1), (50, .getfield 9, 3), (53, .invokevirtual 97, 3), (56, .istore_n 3, 1), (57, .aload_n 0, 1), (58, .getfield 31, 3), (61, .iload_n 1, 1), (62, .invokevirtual 132, 3), (65, .aload_n 0, 1), (66, .iload_n 3, 1), (67, .invokevirtual 56, 3), (70, .iload_n 2, 1), (71, .invokevirtual 94, 3), (74, .aload_n 0, 1), (75, .getfield 22, 3), (78, .iload_n 2, 1), (79, .iload_n 3, 1), (80, .invokevirtual 135, 3), (83, .aload_n 0, 1), (84, .getfield 9, 3), (87, .iload_n 3, 1), (88, .aload_n 0, 1), (89, .getfield 22, 3), (92, .iload_n 2, 1), (93, .invokevirtual 109, 3), (96, .invokevirtual 139, 3), (99, .iload_n 2, 1), (100, .ireturn, 1)]
/-- EvenWheel.Riders.boardNext()I -/
def e_pg_94 : List (Nat × e_PI) := [(0, 2, 0, 1, 0, 0), (1, 44, 3349, 93, 1, 0), (4, 4, 1, 1, 0, 0), (5, 1, 1, 1, 0, 0), (6, 0, 1, 0, 0, -1), (7, 29, 1, 12, 0, 0), (10, 0, 1, 0, 0, -1), (11, 51, 0, 0, 0, 0), (12, 0, 1, 0, 0, 0), (13, 4, 2, 1, 0, 0), (14, 1, 2, 1, 0, 0), (15, 1, 1, 1, 0, 0), (16, 29, 3, 40, 0, 0), (19, 2, 0, 1, 0, 0), (20, 30, 45, 5, 2, 0), (23, 2, 0, 1, 0, 0), (24, 30, 46, 5, 3, 0), (27, 1, 2, 1, 0, 0), (28, 44, 3031, 113, 2, 0), (31, 44, 3362, 46, 2, 0), (34, 7, 2, 0, 0, 1), (37, 27, 14, 0, 0, 0), (40, 2, 0, 1, 0, 0), (41, 30, 46, 5, 3, 0), (44, 1, 1, 1, 0, 0), (45, 44, 3031, 113, 2, 0), (48, 4, 2, 1, 0, 0), (49, 2, 0, 1, 0, 0), (50, 30, 43, 5, 0, 0), (53, 44, 3209, 138, 1, 0), (56, 4, 3, 1, 0, 0), (57, 2, 0, 1, 0, 0), (58, 30, 46, 5, 3, 0), (61, 1, 1, 1, 0, 0), (62, 44, 3383, 118, 2, 0), (65, 2, 0, 1, 0, 0), (66, 1, 3, 1, 0, 0), (67, 44, 2997, 79, 2, 0), (70, 1, 2, 1, 0, 0), (71, 44, 3191, 115, 2, 0), (74, 2, 0, 1, 0, 0), (75, 30, 45, 5, 2, 0), (78, 1, 2, 1, 0, 0), (79, 1, 3, 1, 0, 0), (80, 44, 3394, 43, 3, 0), (83, 2, 0, 1, 0, 0), (84, 30, 43, 5, 0, 0), (87, 1, 3, 1, 0, 0), (88, 2, 0, 1, 0, 0), (89, 30, 45, 5, 2, 0), (92, 1, 2, 1, 0, 0), (93, 44, 3266, 41, 2, 0), (96, 44, 3417, 146, 3, 0), (99, 1, 2, 1, 0, 0), (100, 51, 0, 0, 0, 0)]
def e_in_95 : List (Nat × Instr × Nat) := [(0, .aload_n 0, 1), (1, .getfield 31, 3), (4, .iload_n 1, 1), (5, .invokevirtual 61, 3), (8, .istore_n 2, 1), (9, .aload_n 0, 1), (10, .getfield 31, 3), (13, .iload_n 1, 1), (14, .invokevirtual 132, 3), (17, .aload_n 0, 1), (18, .getfield 22, 3), (21, .iload_n 2, 1), (22, .bipush 101, 2), (24, .invokevirtual 135, 3), (27, .iload_n 2, 1), (28, .ireturn, 1)]
/-- EvenWheel.Riders.sendAway(I)I -/
def e_pg_95 : List (Nat × e_PI) := [(0, 2, 0, 1, 0, 0), (1, 30, 46, 5, 3, 0), (4, 1, 1, 1, 0, 0), (5, 44, 3031, 113, 2, 0), (8, 4, 2, 1, 0, 0), (9, 2, 0, 1, 0, 0), (10, 30, 46, 5, 3, 0), (13, 1, 1, 1, 0, 0), (14, 44, 3383, 118, 2, 0), (17, 2, 0, 1, 0, 0), (18, 30, 45, 5, 2, 0), (21, 1, 2, 1, 0, 0), (22, 0, 2, 0, 0, 101), (24, 44, 3394, 43, 3, 0), (27, 1, 2, 1, 0, 0), (28, 51, 0, 0, 0, 0)]
def e_in_96 : List (Nat × Instr × Nat) := [(0, .aload_n 0, 1), (1, .aload_n 0, 1), (2, .getfield 9, 3), (5, .invokevirtual 97, 3), (8, .invokevirtual 56, 3), (11, .iload_n 1, 1), (12, .invokevirtual 142, 3), (15, .iconst (-1), 1), (16, .if_icmp .eq 7, 3), (19, .iconst 1, 1), (20, .goto 4, 3), (23, .iconst 0, 1), (24, .ireturn, 1)]
/-- EvenWheel.Riders.isAtDoor(I)Z -/
def e_pg_96 : List (Nat × e_PI) := [(0, 2, 0, 1, 0, 0), (1, 2, 0, 1, 0, 0), (2, 30, 43, 5, 0, 0), (5, 44, 3209, 138, 1, 0), (8, 44, 2997, 79, 2, 0), (11, 1, 1, 1, 0, 0), (12, 44, 3431, 114, 2, 0), (15, 0, 1, 0, 0, -1), (16, 29, 0, 23, 0, 0), (19, 0, 1, 0, 0, 1), (20, 27, 24, 0, 0, 0), (23, 0, 1, 0, 0, 0), (24, 52, 0, 0, 0, 0)]
def e_in_97 : List (Nat × Instr × Nat) := [(0, .aload_n 0, 1), (1, .getfield 9, 3), (4, .aload_n 0, 1), (5, .getfield 9, 3), (8, .invokevirtual 97, 3), (11, .aload_n 0, 1), (12, .getfield 22, 3), (15, .iload_n 1, 1), (16, .invokevirtual 109, 3), (19, .ineg, 1), (20, .invokevirtual 112, 3), (23, .istore_n 2, 1), (24, .iload_n 2, 1), (25, .aload_n 0, 1), (26, .getfield 15, 3), (29, .iconst 0, 1), (30, .invokevirtual 117, 3), (33, .if_icmp .le 14, 3), (36, .iload_n 2, 1), (37, .aload_n 0, 1), (38, .getfield 9, 3), (41, .invokevirtual 145, 3), (44, .if_icmp .ge 7, 3), (47, .iconst 1, 1), (48, .goto 4, 3), (51, .iconst 0, 1), (52, .ireturn, 1)]
/-- EvenWheel.Riders.mayLeave(I)Z -/
def e_pg_97 : List (Nat × e_PI) := [(0, 2, 0, 1, 0, 0), (1, 30, 43, 5, 0, 0), (4, 2, 0, 1, 0, 0), (5, 30, 43, 5, 0, 0), (8, 44, 3209, 138, 1, 0), (11, 2, 0, 1, 0, 0), (12, 30, 45, 5, 2, 0), (15, 1, 1, 1, 0, 0), (16, 44, 3266, 41, 2, 0), (19, 11, 0, 0, 0, 0), (20, 44, 3289, 149, 3, 0), (23, 4, 2, 1, 0, 0), (24, 1, 2, 1, 0, 0), (25, 2, 0, 1, 0, 0), (26, 30, 44, 5, 1, 0), (29, 0, 1, 0, 0, 0), (30, 44, 3304, 125, 2, 0), (33, 29, 5, 47, 0, 0), (36, 1, 2, 1, 0, 0), (37, 2, 0, 1, 0, 0), (38, 30, 43, 5, 0, 0), (41, 44, 3449, 148, 1, 0), (44, 29, 3, 51, 0, 0), (47, 0, 1, 0, 0, 1), (48, 27, 52, 0, 0, 0), (51, 0, 1, 0, 0, 0), (52, 52, 0, 0, 0, 0)]
def e_in_98 : List (Nat × Instr × Nat) := [(0, .aload_n 0, 1), (1, .getfield 9, 3), (4, .invokevirtual 97, 3), (7, .istore_n 2, 1), (8, .aload_n 0, 1), (9, .iload_n 2, 1), (10, .invokevirtual 56, 3), (13, .astore_n 3, 1), (14, .aload_n 3, 1), (15, .aload_n 3, 1), (16, .iload_n 1, 1), (17, .invokevirtual 142, 3), (20, .invokevirtual 132, 3), (23, .aload_n 0, 1), (24, .getfield 22, 3), (27, .iload_n 1, 1), (28, .bipush 101, 2), (30, .invokevirtual 135, 3), (33, .aload_n 0, 1), (34, .getfield 9, 3), (37, .iload_n 2, 1), (38, .aload_n 0, 1), (39, .getfield 22, 3), (42, .iload_n 1, 1), (43, .invokevirtual 109, 3), (46, .ineg, 1), (47, .invokevirtual 139, 3), (50, .aload_n 0, 1), (51, .getfield 22, 3), (54, .iload_n 1, 1), (55, .invokevirtual 100, 3), (58, .ireturn, 1)]
/-- EvenWheel.Riders.getOff(I)I -/
def e_pg_98 : List (Nat × e_PI) := [(0, 2, 0, 1, 0, 0), (1, 30, 43, 5, 0, 0), (4, 44, 3209, 138, 1, 0), (7, 4, 2, 1, 0, 0), (8, 2, 0, 1, 0, 0), (9, 1, 2, 1, 0, 0), (10, 44, 2997, 79, 2, 0), (13, 5, 3, 1, 0, 0), (14, 2, 3, 1, 0, 0), (15, 2, 3, 1, 0, 0), (16, 1, 1, 1, 0, 0), (17, 44, 3431, 114, 2, 0), (20, 44, 3383, 118, 2, 0), (23, 2, 0, 1, 0, 0), (24, 30, 45, 5, 2, 0), (27, 1, 1, 1, 0, 0), (28, 0, 2, 0, 0, 101), (30, 44, 3394, 43, 3, 0), (33, 2, 0, 1, 0, 0), (34, 30, 43, 5, 0, 0), (37, 1, 2, 1, 0, 0), (38, 2, 0, 1, 0, 0), (39, 30, 45, 5, 2, 0), (42, 1, 1, 1, 0, 0), (43, 44, 3266, 41, 2, 0), (46, 11, 0, 0, 0, 0), (47, 44, 3417, 146, 3, 0), (50, 2, 0, 1, 0, 0), (51, 30, 45, 5, 2, 0), (54, 1, 1, 1, 0, 0), (55, 44, 3218, 39, 2, 0), (58, 51, 0, 0, 0, 0)]
def e_in_99 : List (Nat × Instr × Nat) := [(0, .aload_n 0, 1), (1, .iload_n 1, 1), (2, .invokevirtual 72, 3), (5, .istore_n 2, 1), (6, .aload_n 0, 1), (7, .iload_n 1, 1), (8, .invokevirtual 56, 3), (11, .astore_n 3, 1), (12, .iconst 0, 1), (13, .istore 4, 2), (15, .iload 4, 2), (17, .aload_n 3, 1), (18, .invokevirtual 60, 3), (21, .if_icmp .ge 24, 3), (24, .aload_n 0, 1), (25, .getfield 22, 3), (28, .aload_n 3, 1), (29, .iload 4, 2), (31, .invokevirtual 61, 3), (34, .bipush 101, 2), (36, .invokevirtual 135, 3), (39, .iinc 4 1, 3), (42, .goto (-27), 3), (45, .aload_n 3, 1), (46, .invokevirtual 45, 3), (49, .aload_n 0, 1), (50, .getfield 9, 3), (53, .iload_n 1, 1), (54, .aload_n 0, 1), (55, .getfield 9, 3), (58, .iload_n 1, 1), (59, .invokevirtual 148, 3), (62, .ineg, 1), (63, .invokevirtual 139, 3), (66, .iload_n 2, 1), (67, .ireturn, 1)]
/-- EvenWheel.Riders.vacate(I)I -/
def e_pg_99 : List (Nat × e_PI) := [(0, 2, 0, 1, 0, 0), (1, 1, 1, 1, 0, 0), (2, 44, 3077, 84, 2, 0), (5, 4, 2, 1, 0, 0), (6, 2, 0, 1, 0, 0), (7, 1, 1, 1, 0, 0), (8, 44, 2997, 79, 2, 0), (11, 5, 3, 1, 0, 0), (12, 0, 1, 0, 0, 0), (13, 4, 4, 2, 0, 0), (15, 1, 4, 2, 0, 0), (17, 2, 3, 1, 0, 0), (18, 44, 3015, 111, 1, 0), (21, 29, 3, 45, 0, 0), (24, 2, 0, 1, 0, 0), (25, 30, 45, 5, 2, 0), (28, 2, 3, 1, 0, 0), (29, 1, 4, 2, 0, 0), (31, 44, 3031, 113, 2, 0), (34, 0, 2, 0, 0, 101), (36, 44, 3394, 43, 3, 0), (39, 7, 4, 0, 0, 1), (42, 27, 15, 0, 0, 0), (45, 2, 3, 1, 0, 0), (46, 44, 2951, 119, 1, 0), (49, 2, 0, 1, 0, 0), (50, 30, 43, 5, 0, 0), (53, 1, 1, 1, 0, 0), (54, 2, 0, 1, 0, 0), (55, 30, 43, 5, 0, 0), (58, 1, 1, 1, 0, 0), (59, 44, 3465, 145, 2, 0), (62, 11, 0, 0, 0, 0), (63, 44, 3417, 146, 3, 0), (66, 1, 2, 1, 0, 0), (67, 51, 0, 0, 0, 0)]
def e_in_100 : List (Nat × Instr × Nat) := [(0, .aload_n 0, 1), (1, .getfield 22, 3), (4, .lload_n 1, 1), (5, .invokevirtual 151, 3), (8, .lstore_n 1, 1), (9, .aload_n 0, 1), (10, .getfield 31, 3), (13, .lload_n 1, 1), (14, .invokevirtual 155, 3), (17, .lstore_n 1, 1), (18, .iconst 0, 1), (19, .istore_n 3, 1), (20, .iload_n 3, 1), (21, .aload_n 0, 1), (22, .getfield 9, 3), (25, .invokevirtual 69, 3), (28, .if_icmp .ge 19, 3), (31, .aload_n 0, 1), (32, .iload_n 3, 1), (33, .invokevirtual 56, 3), (36, .lload_n 1, 1), (37, .invokevirtual 155, 3), (40, .lstore_n 1, 1), (41, .iinc 3 1, 3), (44, .goto (-24), 3), (47, .lload_n 1, 1), (48, .lreturn, 1)]
/-- EvenWheel.Riders.mixInto(J)J -/
def e_pg_100 : List (Nat × e_PI) := [(0, 2, 0, 1, 0, 0), (1, 30, 45, 5, 2, 0), (4, 3, 1, 1, 0, 0), (5, 44, 3474, 48, 2, 0), (8, 6, 1, 1, 0, 0), (9, 2, 0, 1, 0, 0), (10, 30, 46, 5, 3, 0), (13, 3, 1, 1, 0, 0), (14, 44, 3495, 121, 2, 0), (17, 6, 1, 1, 0, 0), (18, 0, 1, 0, 0, 0), (19, 4, 3, 1, 0, 0), (20, 1, 3, 1, 0, 0), (21, 2, 0, 1, 0, 0), (22, 30, 43, 5, 0, 0), (25, 44, 3065, 133, 1, 0), (28, 29, 3, 47, 0, 0), (31, 2, 0, 1, 0, 0), (32, 1, 3, 1, 0, 0), (33, 44, 2997, 79, 2, 0), (36, 3, 1, 1, 0, 0), (37, 44, 3495, 121, 2, 0), (40, 6, 1, 1, 0, 0), (41, 7, 3, 0, 0, 1), (44, 27, 20, 0, 0, 0), (47, 3, 1, 1, 0, 0), (48, 53, 0, 0, 0, 0)]
def e_in_101 : List (Nat × Instr × Nat) := [(0, .aload_n 0, 1), (1, .invokespecial 3, 3), (4, .aload_n 0, 1), (5, .aload_n 1, 1), (6, .putfield 9, 3), (9, .aload_n 0, 1), (10, .aload_n 2, 1), (11, .putfield 15, 3), (14, .aload_n 0, 1), (15, .bipush 30, 2), (17, .newarray .int, 2), (19, .putfield 19, 3), (22, .aload_n 0, 1), (23, .new 23, 3), (26, .dup, 1), (27, .bipush 30, 2), (29, .invokespecial 25, 3), (32, .putfield 28, 3), (35, .return_, 1)]
/-- EvenWheel.Rolling.init(LEvenWheel.Wheel LEvenWheel.Riders )V -/
def e_pg_101 : List (Nat × e_PI) := [(0, 2, 0, 1, 0, 0), (1, 46, 219, 0, 0, 0), (4, 2, 0, 1, 0, 0), (5, 2, 1, 1, 0, 0), (6, 31, 49, 6, 0, 2), (9, 2, 0, 1, 0, 0), (10, 2, 2, 1, 0, 0), (11, 31, 50, 6, 1, 2), (14, 2, 0, 1, 0, 0), (15, 0, 2, 0, 0, 30), (17, 40, 0, 0, 0, 0), (19, 31, 51, 6, 2, 2), (22, 2, 0, 1, 0, 0), (23, 43, 14, 7, 0, 0), (26, 24, 0, 0, 0, 0), (27, 0, 2, 0, 0, 30), (29, 44, 3527, 110, 2, 0), (32, 31, 52, 6, 3, 2), (35, 50, 0, 0, 0, 0)]
def e_in_102 : List (Nat × Instr × Nat) := [(0, .aload_n 0, 1), (1, .invokevirtual 32, 3), (4, .aload_n 0, 1), (5, .invokevirtual 35, 3), (8, .istore_n 1, 1), (9, .aload_n 0, 1), (10, .getfield 9, 3), (13, .aload_n 0, 1), (14, .getfield 39, 3), (17, .invokevirtual 43, 3), (20, .iload_n 1, 1), (21, .ireturn, 1)]
/-- EvenWheel.Rolling.rollNow()I -/
def e_pg_102 : List (Nat × e_PI) := [(0, 2, 0, 1, 0, 0), (1, 44, 3542, 105, 1, 0), (4, 2, 0, 1, 0, 0), (5, 44, 3558, 107, 1, 0), (8, 4, 1, 1, 0, 0), (9, 2, 0, 1, 0, 0), (10, 30, 49, 6, 0, 0), (13, 2, 0, 1, 0, 0), (14, 30, 53, 6, 4, 0), (17, 44, 3577, 135, 2, 0), (20, 1, 1, 1, 0, 0), (21, 51, 0, 0, 0, 0)]
def e_in_103 : List (Nat × Instr × Nat) := [(0, .aload_n 0, 1), (1, .invokevirtual 48, 3), (4, .iconst 0, 1), (5, .istore_n 1, 1), (6, .iconst 0, 1), (7, .istore_n 2, 1), (8, .iload_n 2, 1), (9, .aload_n 0, 1), (10, .getfield 28, 3), (13, .invokevirtual 51, 3), (16, .if_icmp .ge 27, 3), (19, .iload_n 1, 1), (20, .aload_n 0, 1), (21, .getfield 15, 3), (24, .aload_n 0, 1), (25, .getfield 28, 3), (28, .iload_n 2, 1), (29, .invokevirtual 54, 3), (32, .invokevirtual 58, 3), (35, .iadd, 1), (36, .istore_n 1, 1), (37, .iinc 2 1, 3), (40, .goto (-32), 3), (43, .aload_n 0, 1), (44, .getfield 9, 3), (47, .aload_n 0, 1), (48, .getfield 39, 3), (51, .invokevirtual 43, 3), (54, .iload_n 1, 1), (55, .ireturn, 1)]
/-- EvenWheel.Rolling.letAllOut()I -/
def e_pg_103 : List (Nat × e_PI) := [(0, 2, 0, 1, 0, 0), (1, 44, 3590, 108, 1, 0), (4, 0, 1, 0, 0, 0), (5, 4, 1, 1, 0, 0), (6, 0, 1, 0, 0, 0), (7, 4, 2, 1, 0, 0), (8, 1, 2, 1, 0, 0), (9, 2, 0, 1, 0, 0), (10, 30, 52, 6, 3, 0), (13, 44, 3607, 111, 1, 0), (16, 29, 3, 43, 0, 0), (19, 1, 1, 1, 0, 0), (20, 2, 0, 1, 0, 0), (21, 30, 50, 6, 1, 0), (24, 2, 0, 1, 0, 0), (25, 30, 52, 6, 3, 0), (28, 1, 2, 1, 0, 0), (29, 44, 3623, 113, 2, 0), (32, 44, 3637, 99, 2, 0), (35, 8, 0, 0, 0, 0), (36, 4, 1, 1, 0, 0), (37, 7, 2, 0, 0, 1), (40, 27, 8, 0, 0, 0), (43, 2, 0, 1, 0, 0), (44, 30, 49, 6, 0, 0), (47, 2, 0, 1, 0, 0), (48, 30, 53, 6, 4, 0), (51, 44, 3577, 135, 2, 0), (54, 1, 1, 1, 0, 0), (55, 51, 0, 0, 0, 0)]
def e_in_104 : List (Nat × Instr × Nat) := [(0, .aload_n 0, 1), (1, .invokevirtual 48, 3), (4, .aload_n 0, 1), (5, .getfield 15, 3), (8, .invokevirtual 63, 3), (11, .istore_n 1, 1), (12, .iconst 0, 1), (13, .istore_n 2, 1), (14, .iload_n 2, 1), (15, .aload_n 0, 1), (16, .getfield 28, 3), (19, .invokevirtual 51, 3), (22, .if_icmp .ge 27, 3), (25, .iload_n 1, 1), (26, .aload_n 0, 1), (27, .getfield 15, 3), (30, .aload_n 0, 1), (31, .getfield 28, 3), (34, .iload_n 2, 1), (35, .invokevirtual 54, 3), (38, .invokevirtual 66, 3), (41, .isub, 1), (42, .istore_n 1, 1), (43, .iinc 2 1, 3), (46, .goto (-32), 3), (49, .iload_n 1, 1), (50, .ireturn, 1)]
/-- EvenWheel.Rolling.wouldStrand()I -/
def e_pg_104 : List (Nat × e_PI) := [(0, 2, 0, 1, 0, 0), (1, 44, 3590, 108, 1, 0), (4, 2, 0, 1, 0, 0), (5, 30, 50, 6, 1, 0), (8, 44, 3653, 85, 1, 0), (11, 4, 1, 1, 0, 0), (12, 0, 1, 0, 0, 0), (13, 4, 2, 1, 0, 0), (14, 1, 2, 1, 0, 0), (15, 2, 0, 1, 0, 0), (16, 30, 52, 6, 3, 0), (19, 44, 3607, 111, 1, 0), (22, 29, 3, 49, 0, 0), (25, 1, 1, 1, 0, 0), (26, 2, 0, 1, 0, 0), (27, 30, 50, 6, 1, 0), (30, 2, 0, 1, 0, 0), (31, 30, 52, 6, 3, 0), (34, 1, 2, 1, 0, 0), (35, 44, 3623, 113, 2, 0), (38, 44, 3669, 84, 2, 0), (41, 9, 0, 0, 0, 0), (42, 4, 1, 1, 0, 0), (43, 7, 2, 0, 0, 1), (46, 27, 14, 0, 0, 0), (49, 1, 1, 1, 0, 0), (50, 51, 0, 0, 0, 0)]
def e_in_105 : List (Nat × Instr × Nat) := [(0, .aload_n 0, 1), (1, .aload_n 0, 1), (2, .getfield 9, 3), (5, .invokevirtual 69, 3), (8, .putfield 39, 3), (11, .iconst 0, 1), (12, .istore_n 1, 1), (13, .iload_n 1, 1), (14, .aload_n 0, 1), (15, .getfield 9, 3), (18, .invokevirtual 72, 3), (21, .if_icmp .ge 32, 3), (24, .iload_n 1, 1), (25, .aload_n 0, 1), (26, .getfield 19, 3), (29, .arraylength, 1), (30, .if_icmp .ge 23, 3), (33, .aload_n 0, 1), (34, .getfield 19, 3), (37, .iload_n 1, 1), (38, .aload_n 0, 1), (39, .getfield 9, 3), (42, .iload_n 1, 1), (43, .invokevirtual 73, 3), (46, .iastore, 1), (47, .iinc 1 1, 3), (50, .goto (-37), 3), (53, .return_, 1)]
/-- EvenWheel.Rolling.copyWheel()V -/
def e_pg_105 : List (Nat × e_PI) := [(0, 2, 0, 1, 0, 0), (1, 2, 0, 1, 0, 0), (2, 30, 49, 6, 0, 0), (5, 44, 3689, 134, 1, 0), (8, 31, 53, 6, 4, 0), (11, 0, 1, 0, 0, 0), (12, 4, 1, 1, 0, 0), (13, 1, 1, 1, 0, 0), (14, 2, 0, 1, 0, 0), (15, 30, 49, 6, 0, 0), (18, 44, 3705, 133, 1, 0), (21, 29, 3, 53, 0, 0), (24, 1, 1, 1, 0, 0), (25, 2, 0, 1, 0, 0), (26, 30, 51, 6, 2, 0), (29, 38, 0, 0, 0, 0), (30, 29, 3, 53, 0, 0), (33, 2, 0, 1, 0, 0), (34, 30, 51, 6, 2, 0), (37, 1, 1, 1, 0, 0), (38, 2, 0, 1, 0, 0), (39, 30, 49, 6, 0, 0), (42, 1, 1, 1, 0, 0), (43, 44, 3721, 147, 2, 0), (46, 33, 0, 0, 0, 0), (47, 7, 1, 0, 0, 1), (50, 27, 13, 0, 0, 0), (53, 50, 0, 0, 0, 0)]
def e_in_106 : List (Nat × Instr × Nat) := [(0, .iload_n 1, 1), (1, .ifCond .lt 21, 3), (4, .iload_n 1, 1), (5, .aload_n 0, 1), (6, .getfield 19, 3), (9, .arraylength, 1), (10, .if_icmp .ge 12, 3), (13, .aload_n 0, 1), (14, .getfield 19, 3), (17, .iload_n 1, 1), (18, .iaload, 1), (19, .goto 4, 3), (22, .iconst 0, 1), (23, .ireturn, 1)]
/-- EvenWheel.Rolling.leanAt(I)I -/
def e_pg_106 : List (Nat × e_PI) := [(0, 1, 1, 1, 0, 0), (1, 28, 2, 22, 0, 0), (4, 1, 1, 1, 0, 0), (5, 2, 0, 1, 0, 0), (6, 30, 51, 6, 2, 0), (9, 38, 0, 0, 0, 0), (10, 29, 3, 22, 0, 0), (13, 2, 0, 1, 0, 0), (14, 30, 51, 6, 2, 0), (17, 1, 1, 1, 0, 0), (18, 32, 0, 0, 0, 0), (19, 27, 23, 0, 0, 0), (22, 0, 1, 0, 0, 0), (23, 51, 0, 0, 0, 0)]
def e_in_107 : List (Nat × Instr × Nat) := [(0, .iconst 0, 1), (1, .istore_n 1, 1), (2, .iconst 0, 1), (3, .istore_n 2, 1), (4, .iload_n 2, 1), (5, .aload_n 0, 1), (6, .getfield 9, 3), (9, .invokevirtual 72, 3), (12, .if_icmp .ge 113, 3), (15, .aload_n 0, 1), (16, .aload_n 0, 1), (17, .getfield 39, 3), (20, .invokevirtual 76, 3), (23, .ifCond .eq 102, 3), (26, .aload_n 0, 1), (27, .aload_n 0, 1), (28, .getfield 39, 3), (31, .invokevirtual 76, 3), (34, .ifCond .le 7, 3), (37, .iconst 1, 1), (38, .goto 4, 3), (41, .iconst 0, 1), (42, .istore_n 3, 1), (43, .iload_n 3, 1), (44, .ifCond .eq 17, 3), (47, .aload_n 0, 1), (48, .getfield 9, 3), (51, .aload_n 0, 1), (52, .getfield 39, 3), (55, .invokevirtual 77, 3), (58, .goto 14, 3), (61, .aload_n 0, 1), (62, .getfield 9, 3), (65, .aload_n 0, 1), (66, .getfield 39, 3), (69, .invokevirtual 80, 3), (72, .istore 4, 2), (74, .iload_n 3, 1), (75, .ifCond .eq 15, 3), (78, .aload_n 0, 1), (79, .iload 4, 2), (81, .invokevirtual 76, 3), (84, .ifCond .ge 17, 3), (87, .goto 12, 3), (90, .aload_n 0, 1), (91, .iload 4, 2), (93, .invokevirtual 76, 3), (96, .ifCond .le 5, 3), (99, .iload_n 1, 1), (100, .ireturn, 1), (101, .aload_n 0, 1), (102, .iload 4, 2), (104, .putfield 39, 3), (107, .iload_n 1, 1), (108, .iload_n 3, 1), (109, .ifCond .eq 7, 3), (112, .iconst (-1), 1), (113, .goto 4, 3), (116, .iconst 1, 1), (117, .iadd, 1), (118, .istore_n 1, 1), (119, .iinc 2 1, 3), (122, .goto (-118), 3), (125, .iload_n 1, 1), (126, .ireturn, 1)]
/-- EvenWheel.Rolling.toRest()I -/
def e_pg_107 : List (Nat × e_PI) := [(0, 0, 1, 0, 0, 0), (1, 4, 1, 1, 0, 0), (2, 0, 1, 0, 0, 0), (3, 4, 2, 1, 0, 0), (4, 1, 2, 1, 0, 0), (5, 2, 0, 1, 0, 0), (6, 30, 49, 6, 0, 0), (9, 44, 3705, 133, 1, 0), (12, 29, 3, 125, 0, 0), (15, 2, 0, 1, 0, 0), (16, 2, 0, 1, 0, 0), (17, 30, 53, 6, 4, 0), (20, 44, 3734, 106, 2, 0), (23, 28, 0, 125, 0, 0), (26, 2, 0, 1, 0, 0), (27, 2, 0, 1, 0, 0), (28, 30, 53, 6, 4, 0), (31, 44, 3734, 106, 2, 0), (34, 28, 5, 41, 0, 0), (37, 0, 1, 0, 0, 1), (38, 27, 42, 0, 0, 0), (41, 0, 1, 0, 0, 0), (42, 4, 3, 1, 0, 0), (43, 1, 3, 1, 0, 0), (44, 28, 0, 61, 0, 0), (47, 2, 0, 1, 0, 0), (48, 30, 49, 6, 0, 0), (51, 2, 0, 1, 0, 0), (52, 30, 53, 6, 4, 0), (55, 44, 3753, 137, 2, 0), (58, 27, 72, 0, 0, 0), (61, 2, 0, 1, 0, 0), (62, 30, 49, 6, 0, 0), (65, 2, 0, 1, 0, 0), (66, 30, 53, 6, 4, 0), (69, 44, 3769, 136, 2, 0), (72, 4, 4, 2, 0, 0), (74, 1, 3, 1, 0, 0), (75, 28, 0, 90, 0, 0), (78, 2, 0, 1, 0, 0), (79, 1, 4, 2, 0, 0), (81, 44, 3734, 106, 2, 0), (84, 28, 3, 101, 0, 0), (87, 27, 99, 0, 0, 0), (90, 2, 0, 1, 0, 0), (91, 1, 4, 2, 0, 0), (93, 44, 3734, 106, 2, 0), (96, 28, 5, 101, 0, 0), (99, 1, 1, 1, 0, 0), (100, 51, 0, 0, 0, 0), (101, 2, 0, 1, 0, 0), (102, 1, 4, 2, 0, 0), (104, 31, 53, 6, 4, 0), (107, 1, 1, 1, 0, 0), (108, 1, 3, 1, 0, 0), (109, 28, 0, 116, 0, 0), (112, 0, 1, 0, 0, -1), (113, 27, 117, 0, 0, 0), (116, 0, 1, 0, 0, 1), (117, 8, 0, 0, 0, 0), (118, 4, 1, 1, 0, 0), (119, 7, 2, 0, 0, 1), (122, 27, 4, 0, 0, 0), (125, 1, 1, 1, 0, 0), (126, 51, 0, 0, 0, 0)]
def e_in_108 : List (Nat × Instr × Nat) := [(0, .aload_n 0, 1), (1, .invokevirtual 32, 3), (4, .aload_n 0, 1), (5, .getfield 28, 3), (8, .invokevirtual 83, 3), (11, .iconst 0, 1), (12, .istore_n 1, 1), (13, .iload_n 1, 1), (14, .aload_n 0, 1), (15, .getfield 9, 3), (18, .invokevirtual 72, 3), (21, .if_icmp .gt 63, 3), (24, .aload_n 0, 1), (25, .invokevirtual 35, 3), (28, .pop, 1), (29, .aload_n 0, 1), (30, .getfield 9, 3), (33, .aload_n 0, 1), (34, .getfield 39, 3), (37, .invokevirtual 86, 3), (40, .istore_n 2, 1), (41, .aload_n 0, 1), (42, .getfield 9, 3), (45, .iload_n 2, 1), (46, .invokevirtual 89, 3), (49, .ifCond .eq 15, 3), (52, .aload_n 0, 1), (53, .getfield 28, 3), (56, .iload_n 2, 1), (57, .invokevirtual 92, 3), (60, .iconst (-1), 1), (61, .if_icmp .eq 4, 3), (64, .return_, 1), (65, .aload_n 0, 1), (66, .getfield 28, 3), (69, .iload_n 2, 1), (70, .invokevirtual 95, 3), (73, .aload_n 0, 1), (74, .iload_n 2, 1), (75, .invokevirtual 98, 3), (78, .iinc 1 1, 3), (81, .goto (-68), 3), (84, .return_, 1)]
/-- EvenWheel.Rolling.tryLettingOut()V -/
def e_pg_108 : List (Nat × e_PI) := [(0, 2, 0, 1, 0, 0), (1, 44, 3542, 105, 1, 0), (4, 2, 0, 1, 0, 0), (5, 30, 52, 6, 3, 0), (8, 44, 3783, 119, 1, 0), (11, 0, 1, 0, 0, 0), (12, 4, 1, 1, 0, 0), (13, 1, 1, 1, 0, 0), (14, 2, 0, 1, 0, 0), (15, 30, 49, 6, 0, 0), (18, 44, 3705, 133, 1, 0), (21, 29, 4, 84, 0, 0), (24, 2, 0, 1, 0, 0), (25, 44, 3558, 107, 1, 0), (28, 26, 0, 0, 0, 0), (29, 2, 0, 1, 0, 0), (30, 30, 49, 6, 0, 0), (33, 2, 0, 1, 0, 0), (34, 30, 53, 6, 4, 0), (37, 44, 3801, 139, 2, 0), (40, 4, 2, 1, 0, 0), (41, 2, 0, 1, 0, 0), (42, 30, 49, 6, 0, 0), (45, 1, 2, 1, 0, 0), (46, 44, 3817, 145, 2, 0), (49, 28, 0, 64, 0, 0), (52, 2, 0, 1, 0, 0), (53, 30, 52, 6, 3, 0), (56, 1, 2, 1, 0, 0), (57, 44, 3831, 114, 2, 0), (60, 0, 1, 0, 0, -1), (61, 29, 0, 65, 0, 0), (64, 50, 0, 0, 0, 0), (65, 2, 0, 1, 0, 0), (66, 30, 52, 6, 3, 0), (69, 1, 2, 1, 0, 0), (70, 44, 3847, 115, 2, 0), (73, 2, 0, 1, 0, 0), (74, 1, 2, 1, 0, 0), (75, 44, 3862, 109, 2, 0), (78, 7, 1, 0, 0, 1), (81, 27, 13, 0, 0, 0), (84, 50, 0, 0, 0, 0)]
def e_in_109 : List (Nat × Instr × Nat) := [(0, .iconst 0, 1), (1, .istore_n 2, 1), (2, .iload_n 2, 1), (3, .aload_n 0, 1), (4, .getfield 9, 3), (7, .invokevirtual 72, 3), (10, .if_icmp .ge 45, 3), (13, .iload_n 2, 1), (14, .aload_n 0, 1), (15, .getfield 19, 3), (18, .arraylength, 1), (19, .if_icmp .ge 36, 3), (22, .aload_n 0, 1), (23, .getfield 19, 3), (26, .iload_n 2, 1), (27, .dup2, 1), (28, .iaload, 1), (29, .aload_n 0, 1), (30, .getfield 9, 3), (33, .iload_n 1, 1), (34, .invokevirtual 89, 3), (37, .aload_n 0, 1), (38, .getfield 9, 3), (41, .iload_n 1, 1), (42, .iload_n 2, 1), (43, .invokevirtual 101, 3), (46, .imul, 1), (47, .isub, 1), (48, .iastore, 1), (49, .iinc 2 1, 3), (52, .goto (-50), 3), (55, .return_, 1)]
/-- EvenWheel.Rolling.takeOff(I)V -/
def e_pg_109 : List (Nat × e_PI) := [(0, 0, 1, 0, 0, 0), (1, 4, 2, 1, 0, 0), (2, 1, 2, 1, 0, 0), (3, 2, 0, 1, 0, 0), (4, 30, 49, 6, 0, 0), (7, 44, 3705, 133, 1, 0), (10, 29, 3, 55, 0, 0), (13, 1, 2, 1, 0, 0), (14, 2, 0, 1, 0, 0), (15, 30, 51, 6, 2, 0), (18, 38, 0, 0, 0, 0), (19, 29, 3, 55, 0, 0), (22, 2, 0, 1, 0, 0), (23, 30, 51, 6, 2, 0), (26, 1, 2, 1, 0, 0), (27, 25, 0, 0, 0, 0), (28, 32, 0, 0, 0, 0), (29, 2, 0, 1, 0, 0), (30, 30, 49, 6, 0, 0), (33, 1, 1, 1, 0, 0), (34, 44, 3817, 145, 2, 0), (37, 2, 0, 1, 0, 0), (38, 30, 49, 6, 0, 0), (41, 1, 1, 1, 0, 0), (42, 1, 2, 1, 0, 0), (43, 44, 3881, 144, 3, 0), (46, 10, 0, 0, 0, 0), (47, 9, 0, 0, 0, 0), (48, 33, 0, 0, 0, 0), (49, 7, 2, 0, 0, 1), (52, 27, 2, 0, 0, 0), (55, 50, 0, 0, 0, 0)]
def e_in_110 : List (Nat × Instr × Nat) := [(0, .aload_n 0, 1), (1, .invokespecial 3, 3), (4, .aload_n 0, 1), (5, .iconst 0, 1), (6, .iload_n 1, 1), (7, .invokestatic 9, 3), (10, .newarray .int, 2), (12, .putfield 15, 3), (15, .return_, 1)]
/-- EvenWheel.Row.init(I)V -/
def e_pg_110 : List (Nat × e_PI) := [(0, 2, 0, 1, 0, 0), (1, 46, 243, 0, 0, 0), (4, 2, 0, 1, 0, 0), (5, 0, 1, 0, 0, 0), (6, 1, 1, 1, 0, 0), (7, 44, 3919, 265, 2, 0), (10, 40, 0, 0, 0, 0), (12, 31, 54, 7, 0, 2), (15, 50, 0, 0, 0, 0)]
def e_in_111 : List (Nat × Instr × Nat) := [(0, .aload_n 0, 1), (1, .getfield 21, 3), (4, .ireturn, 1)]
/-- EvenWheel.Row.count()I -/
def e_pg_111 : List (Nat × e_PI) := [(0, 2, 0, 1, 0, 0), (1, 30, 55, 7, 1, 0), (4, 51, 0, 0, 0, 0)]
def e_in_112 : List (Nat × Instr × Nat) := [(0, .aload_n 0, 1), (1, .getfield 21, 3), (4, .aload_n 0, 1), (5, .getfield 15, 3), (8, .arraylength, 1), (9, .if_icmp .ge 7, 3), (12, .iconst 1, 1), (13, .goto 4, 3), (16, .iconst 0, 1), (17, .ireturn, 1)]
/-- EvenWheel.Row.hasRoom()Z -/
def e_pg_112 : List (Nat × e_PI) := [(0, 2, 0, 1, 0, 0), (1, 30, 55, 7, 1, 0), (4, 2, 0, 1, 0, 0), (5, 30, 54, 7, 0, 0), (8, 38, 0, 0, 0, 0), (9, 29, 3, 16, 0, 0), (12, 0, 1, 0, 0, 1), (13, 27, 17, 0, 0, 0), (16, 0, 1, 0, 0, 0), (17, 52, 0, 0, 0, 0)]
def e_in_113 : List (Nat × Instr × Nat) := [(0, .iload_n 1, 1), (1, .ifCond .lt 20, 3), (4, .iload_n 1, 1), (5, .aload_n 0, 1), (6, .getfield 21, 3), (9, .if_icmp .ge 12, 3), (12, .aload_n 0, 1), (13, .getfield 15, 3), (16, .iload_n 1, 1), (17, .iaload, 1), (18, .goto 4, 3), (21, .iconst (-1), 1), (22, .ireturn, 1)]
/-- EvenWheel.Row.at(I)I -/
def e_pg_113 : List (Nat × e_PI) := [(0, 1, 1, 1, 0, 0), (1, 28, 2, 21, 0, 0), (4, 1, 1, 1, 0, 0), (5, 2, 0, 1, 0, 0), (6, 30, 55, 7, 1, 0), (9, 29, 3, 21, 0, 0), (12, 2, 0, 1, 0, 0), (13, 30, 54, 7, 0, 0), (16, 1, 1, 1, 0, 0), (17, 32, 0, 0, 0, 0), (18, 27, 22, 0, 0, 0), (21, 0, 1, 0, 0, -1), (22, 51, 0, 0, 0, 0)]
def e_in_114 : List (Nat × Instr × Nat) := [(0, .iconst 0, 1), (1, .istore_n 2, 1), (2, .iload_n 2, 1), (3, .aload_n 0, 1), (4, .getfield 21, 3), (7, .if_icmp .ge 21, 3), (10, .aload_n 0, 1), (11, .getfield 15, 3), (14, .iload_n 2, 1), (15, .iaload, 1), (16, .iload_n 1, 1), (17, .if_icmp .ne 5, 3), (20, .iload_n 2, 1), (21, .ireturn, 1), (22, .iinc 2 1, 3), (25, .goto (-23), 3), (28, .iconst (-1), 1), (29, .ireturn, 1)]
/-- EvenWheel.Row.placeOf(I)I -/
def e_pg_114 : List (Nat × e_PI) := [(0, 0, 1, 0, 0, 0), (1, 4, 2, 1, 0, 0), (2, 1, 2, 1, 0, 0), (3, 2, 0, 1, 0, 0), (4, 30, 55, 7, 1, 0), (7, 29, 3, 28, 0, 0), (10, 2, 0, 1, 0, 0), (11, 30, 54, 7, 0, 0), (14, 1, 2, 1, 0, 0), (15, 32, 0, 0, 0, 0), (16, 1, 1, 1, 0, 0), (17, 29, 1, 22, 0, 0), (20, 1, 2, 1, 0, 0), (21, 51, 0, 0, 0, 0), (22, 7, 2, 0, 0, 1), (25, 27, 2, 0, 0, 0), (28, 0, 1, 0, 0, -1), (29, 51, 0, 0, 0, 0)]
def e_in_115 : List (Nat × Instr × Nat) := [(0, .aload_n 0, 1), (1, .invokevirtual 25, 3), (4, .ifCond .eq 23, 3), (7, .aload_n 0, 1), (8, .getfield 15, 3), (11, .aload_n 0, 1), (12, .getfield 21, 3), (15, .iload_n 1, 1), (16, .iastore, 1), (17, .aload_n 0, 1), (18, .dup, 1), (19, .getfield 21, 3), (22, .iconst 1, 1), (23, .iadd, 1), (24, .putfield 21, 3), (27, .return_, 1)]
/-- EvenWheel.Row.append(I)V -/
def e_pg_115 : List (Nat × e_PI) := [(0, 2, 0, 1, 0, 0), (1, 44, 3927, 112, 1, 0), (4, 28, 0, 27, 0, 0), (7, 2, 0, 1, 0, 0), (8, 30, 54, 7, 0, 0), (11, 2, 0, 1, 0, 0), (12, 30, 55, 7, 1, 0), (15, 1, 1, 1, 0, 0), (16, 33, 0, 0, 0, 0), (17, 2, 0, 1, 0, 0), (18, 24, 0, 0, 0, 0), (19, 30, 55, 7, 1, 0), (22, 0, 1, 0, 0, 1), (23, 8, 0, 0, 0, 0), (24, 31, 55, 7, 1, 0), (27, 50, 0, 0, 0, 0)]
def e_in_116 : List (Nat × Instr × Nat) := [(0, .iload_n 1, 1), (1, .ifCond .lt 18, 3), (4, .iload_n 1, 1), (5, .aload_n 0, 1), (6, .getfield 21, 3), (9, .if_icmp .ge 10, 3), (12, .aload_n 0, 1), (13, .getfield 15, 3), (16, .iload_n 1, 1), (17, .iload_n 2, 1), (18, .iastore, 1), (19, .return_, 1)]
/-- EvenWheel.Row.set(II)V -/
def e_pg_116 : List (Nat × e_PI) := [(0, 1, 1, 1, 0, 0), (1, 28, 2, 19, 0, 0), (4, 1, 1, 1, 0, 0), (5, 2, 0, 1, 0, 0), (6, 30, 55, 7, 1, 0), (9, 29, 3, 19, 0, 0), (12, 2, 0, 1, 0, 0), (13, 30, 54, 7, 0, 0), (16, 1, 1, 1, 0, 0), (17, 1, 2, 1, 0, 0), (18, 33, 0, 0, 0, 0), (19, 50, 0, 0, 0, 0)]
def e_in_117 : List (Nat × Instr × Nat) := [(0, .aload_n 0, 1), (1, .iload_n 1, 1), (2, .invokevirtual 29, 3), (5, .istore_n 3, 1), (6, .aload_n 0, 1), (7, .iload_n 1, 1), (8, .aload_n 0, 1), (9, .iload_n 2, 1), (10, .invokevirtual 29, 3), (13, .invokevirtual 33, 3), (16, .aload_n 0, 1), (17, .iload_n 2, 1), (18, .iload_n 3, 1), (19, .invokevirtual 33, 3), (22, .return_, 1)]
/-- EvenWheel.Row.swap(II)V -/
def e_pg_117 : List (Nat × e_PI) := [(0, 2, 0, 1, 0, 0), (1, 1, 1, 1, 0, 0), (2, 44, 3943, 113, 2, 0), (5, 4, 3, 1, 0, 0), (6, 2, 0, 1, 0, 0), (7, 1, 1, 1, 0, 0), (8, 2, 0, 1, 0, 0), (9, 1, 2, 1, 0, 0), (10, 44, 3943, 113, 2, 0), (13, 44, 3959, 116, 3, 0), (16, 2, 0, 1, 0, 0), (17, 1, 2, 1, 0, 0), (18, 1, 3, 1, 0, 0), (19, 44, 3959, 116, 3, 0), (22, 50, 0, 0, 0, 0)]
def e_in_118 : List (Nat × Instr × Nat) := [(0, .iload_n 1, 1), (1, .ifCond .lt 11, 3), (4, .iload_n 1, 1), (5, .aload_n 0, 1), (6, .getfield 21, 3), (9, .if_icmp .lt 4, 3), (12, .return_, 1), (13, .iload_n 1, 1), (14, .iconst 1, 1), (15, .iadd, 1), (16, .istore_n 2, 1), (17, .iload_n 2, 1), (18, .aload_n 0, 1), (19, .getfield 21, 3), (22, .if_icmp .ge 23, 3), (25, .aload_n 0, 1), (26, .getfield 15, 3), (29, .iload_n 2, 1), (30, .iconst 1, 1), (31, .isub, 1), (32, .aload_n 0, 1), (33, .getfield 15, 3), (36, .iload_n 2, 1), (37, .iaload, 1), (38, .iastore, 1), (39, .iinc 2 1, 3), (42, .goto (-25), 3), (45, .aload_n 0, 1), (46, .dup, 1), (47, .getfield 21, 3), (50, .iconst 1, 1), (51, .isub, 1), (52, .putfield 21, 3), (55, .return_, 1)]
/-- EvenWheel.Row.cut(I)V -/
def e_pg_118 : List (Nat × e_PI) := [(0, 1, 1, 1, 0, 0), (1, 28, 2, 12, 0, 0), (4, 1, 1, 1, 0, 0), (5, 2, 0, 1, 0, 0), (6, 30, 55, 7, 1, 0), (9, 29, 2, 13, 0, 0), (12, 50, 0, 0, 0, 0), (13, 1, 1, 1, 0, 0), (14, 0, 1, 0, 0, 1), (15, 8, 0, 0, 0, 0), (16, 4, 2, 1, 0, 0), (17, 1, 2, 1, 0, 0), (18, 2, 0, 1, 0, 0), (19, 30, 55, 7, 1, 0), (22, 29, 3, 45, 0, 0), (25, 2, 0, 1, 0, 0), (26, 30, 54, 7, 0, 0), (29, 1, 2, 1, 0, 0), (30, 0, 1, 0, 0, 1), (31, 9, 0, 0, 0, 0), (32, 2, 0, 1, 0, 0), (33, 30, 54, 7, 0, 0), (36, 1, 2, 1, 0, 0), (37, 32, 0, 0, 0, 0), (38, 33, 0, 0, 0, 0), (39, 7, 2, 0, 0, 1), (42, 27, 17, 0, 0, 0), (45, 2, 0, 1, 0, 0), (46, 24, 0, 0, 0, 0), (47, 30, 55, 7, 1, 0), (50, 0, 1, 0, 0, 1), (51, 9, 0, 0, 0, 0), (52, 31, 55, 7, 1, 0), (55, 50, 0, 0, 0, 0)]
def e_in_119 : List (Nat × Instr × Nat) := [(0, .aload_n 0, 1), (1, .iconst 0, 1), (2, .putfield 21, 3), (5, .return_, 1)]
/-- EvenWheel.Row.clear()V -/
def e_pg_119 : List (Nat × e_PI) := [(0, 2, 0, 1, 0, 0), (1, 0, 1, 0, 0, 0), (2, 31, 55, 7, 1, 0), (5, 50, 0, 0, 0, 0)]
def e_in_120 : List (Nat × Instr × Nat) := [(0, .aload_n 0, 1), (1, .invokevirtual 37, 3), (4, .iconst 0, 1), (5, .istore_n 2, 1), (6, .iload_n 2, 1), (7, .aload_n 1, 1), (8, .invokevirtual 40, 3), (11, .if_icmp .ge 18, 3), (14, .aload_n 0, 1), (15, .aload_n 1, 1), (16, .iload_n 2, 1), (17, .invokevirtual 29, 3), (20, .invokevirtual 44, 3), (23, .iinc 2 1, 3), (26, .goto (-20), 3), (29, .return_, 1)]
/-- EvenWheel.Row.copyFrom(LEvenWheel.Row )V -/
def e_pg_120 : List (Nat × e_PI) := [(0, 2, 0, 1, 0, 0), (1, 44, 3975, 119, 1, 0), (4, 0, 1, 0, 0, 0), (5, 4, 2, 1, 0, 0), (6, 1, 2, 1, 0, 0), (7, 2, 1, 1, 0, 0), (8, 44, 3991, 111, 1, 0), (11, 29, 3, 29, 0, 0), (14, 2, 0, 1, 0, 0), (15, 2, 1, 1, 0, 0), (16, 1, 2, 1, 0, 0), (17, 44, 3943, 113, 2, 0), (20, 44, 4007, 115, 2, 0), (23, 7, 2, 0, 0, 1), (26, 27, 6, 0, 0, 0), (29, 50, 0, 0, 0, 0)]
def e_in_121 : List (Nat × Instr × Nat) := [(0, .iconst 0, 1), (1, .istore_n 3, 1), (2, .iload_n 3, 1), (3, .aload_n 0, 1), (4, .getfield 21, 3), (7, .if_icmp .ge 21, 3), (10, .lload_n 1, 1), (11, .aload_n 0, 1), (12, .getfield 15, 3), (15, .iload_n 3, 1), (16, .iaload, 1), (17, .i2l, 1), (18, .invokestatic 48, 3), (21, .lstore_n 1, 1), (22, .iinc 3 1, 3), (25, .goto (-23), 3), (28, .lload_n 1, 1), (29, .lreturn, 1)]
/-- EvenWheel.Row.mixInto(J)J -/
def e_pg_121 : List (Nat × e_PI) := [(0, 0, 1, 0, 0, 0), (1, 4, 3, 1, 0, 0), (2, 1, 3, 1, 0, 0), (3, 2, 0, 1, 0, 0), (4, 30, 55, 7, 1, 0), (7, 29, 3, 28, 0, 0), (10, 3, 1, 1, 0, 0), (11, 2, 0, 1, 0, 0), (12, 30, 54, 7, 0, 0), (15, 1, 3, 1, 0, 0), (16, 32, 0, 0, 0, 0), (17, 19, 0, 0, 0, 0), (18, 44, 4031, 191, 2, 0), (21, 6, 1, 1, 0, 0), (22, 7, 3, 0, 0, 1), (25, 27, 2, 0, 0, 0), (28, 3, 1, 1, 0, 0), (29, 53, 0, 0, 0, 0)]
def e_in_122 : List (Nat × Instr × Nat) := [(0, .aload_n 0, 1), (1, .invokespecial 1, 3), (4, .aload_n 0, 1), (5, .iconst 4, 1), (6, .newarray .int, 2), (8, .dup, 1), (9, .iconst 0, 1), (10, .ldc 7, 2), (12, .iastore, 1), (13, .dup, 1), (14, .iconst 1, 1), (15, .sipush 3000, 3), (18, .iastore, 1), (19, .dup, 1), (20, .iconst 2, 1), (21, .bipush 20, 2), (23, .iastore, 1), (24, .dup, 1), (25, .iconst 3, 1), (26, .iconst 5, 1), (27, .iastore, 1), (28, .putfield 8, 3), (31, .return_, 1)]
/-- EvenWheel.Rules.init()V -/
def e_pg_122 : List (Nat × e_PI) := [(0, 2, 0, 1, 0, 0), (1, 46, 252, 0, 0, 0), (4, 2, 0, 1, 0, 0), (5, 0, 1, 0, 0, 4), (6, 40, 0, 0, 0, 0), (8, 24, 0, 0, 0, 0), (9, 0, 1, 0, 0, 0), (10, 0, 2, 5, 0, 60000), (12, 33, 0, 0, 0, 0), (13, 24, 0, 0, 0, 0), (14, 0, 1, 0, 0, 1), (15, 0, 3, 0, 0, 3000), (18, 33, 0, 0, 0, 0), (19, 24, 0, 0, 0, 0), (20, 0, 1, 0, 0, 2), (21, 0, 2, 0, 0, 20), (23, 33, 0, 0, 0, 0), (24, 24, 0, 0, 0, 0), (25, 0, 1, 0, 0, 3), (26, 0, 1, 0, 0, 5), (27, 33, 0, 0, 0, 0), (28, 31, 56, 8, 0, 2), (31, 50, 0, 0, 0, 0)]
def e_in_123 : List (Nat × Instr × Nat) := [(0, .iload_n 0, 1), (1, .ifCond .lt 12, 3), (4, .iload_n 0, 1), (5, .iconst 3, 1), (6, .if_icmp .gt 7, 3), (9, .iconst 1, 1), (10, .goto 4, 3), (13, .iconst 0, 1), (14, .ireturn, 1)]
/-- EvenWheel.Rules.names(I)Z -/
def e_pg_123 : List (Nat × e_PI) := [(0, 1, 0, 1, 0, 0), (1, 28, 2, 13, 0, 0), (4, 1, 0, 1, 0, 0), (5, 0, 1, 0, 0, 3), (6, 29, 4, 13, 0, 0), (9, 0, 1, 0, 0, 1), (10, 27, 14, 0, 0, 0), (13, 0, 1, 0, 0, 0), (14, 52, 0, 0, 0, 0)]
def e_in_124 : List (Nat × Instr × Nat) := [(0, .iload_n 0, 1), (1, .invokestatic 14, 3), (4, .ifCond .eq 25, 3), (7, .iload_n 1, 1), (8, .getstatic 18, 3), (11, .iload_n 0, 1), (12, .iaload, 1), (13, .if_icmp .lt 16, 3), (16, .iload_n 1, 1), (17, .getstatic 21, 3), (20, .iload_n 0, 1), (21, .iaload, 1), (22, .if_icmp .gt 7, 3), (25, .iconst 1, 1), (26, .goto 4, 3), (29, .iconst 0, 1), (30, .ireturn, 1)]
/-- EvenWheel.Rules.allows(II)Z -/
def e_pg_124 : List (Nat × e_PI) := [(0, 1, 0, 1, 0, 0), (1, 44, 4063, 123, 1, 0), (4, 28, 0, 29, 0, 0), (7, 1, 1, 1, 0, 0), (8, 39, 57, 1002, 0, 0), (11, 1, 0, 1, 0, 0), (12, 32, 0, 0, 0, 0), (13, 29, 2, 29, 0, 0), (16, 1, 1, 1, 0, 0), (17, 39, 58, 1003, 0, 0), (20, 1, 0, 1, 0, 0), (21, 32, 0, 0, 0, 0), (22, 29, 4, 29, 0, 0), (25, 0, 1, 0, 0, 1), (26, 27, 30, 0, 0, 0), (29, 0, 1, 0, 0, 0), (30, 52, 0, 0, 0, 0)]
def e_in_125 : List (Nat × Instr × Nat) := [(0, .iload_n 1, 1), (1, .invokestatic 14, 3), (4, .ifCond .eq 12, 3), (7, .aload_n 0, 1), (8, .getfield 8, 3), (11, .iload_n 1, 1), (12, .iaload, 1), (13, .goto 4, 3), (16, .iconst 0, 1), (17, .ireturn, 1)]
/-- EvenWheel.Rules.valueOf(I)I -/
def e_pg_125 : List (Nat × e_PI) := [(0, 1, 1, 1, 0, 0), (1, 44, 4063, 123, 1, 0), (4, 28, 0, 16, 0, 0), (7, 2, 0, 1, 0, 0), (8, 30, 56, 8, 0, 0), (11, 1, 1, 1, 0, 0), (12, 32, 0, 0, 0, 0), (13, 27, 17, 0, 0, 0), (16, 0, 1, 0, 0, 0), (17, 51, 0, 0, 0, 0)]
def e_in_126 : List (Nat × Instr × Nat) := [(0, .aload_n 0, 1), (1, .iload_n 1, 1), (2, .invokevirtual 24, 3), (5, .istore_n 3, 1), (6, .iload_n 1, 1), (7, .invokestatic 14, 3), (10, .ifCond .eq 10, 3), (13, .aload_n 0, 1), (14, .getfield 8, 3), (17, .iload_n 1, 1), (18, .iload_n 2, 1), (19, .iastore, 1), (20, .iload_n 3, 1), (21, .ireturn, 1)]
/-- EvenWheel.Rules.change(II)I -/
def e_pg_126 : List (Nat × e_PI) := [(0, 2, 0, 1, 0, 0), (1, 1, 1, 1, 0, 0), (2, 44, 4072, 125, 2, 0), (5, 4, 3, 1, 0, 0), (6, 1, 1, 1, 0, 0), (7, 44, 4063, 123, 1, 0), (10, 28, 0, 20, 0, 0), (13, 2, 0, 1, 0, 0), (14, 30, 56, 8, 0, 0), (17, 1, 1, 1, 0, 0), (18, 1, 2, 1, 0, 0), (19, 33, 0, 0, 0, 0), (20, 1, 3, 1, 0, 0), (21, 51, 0, 0, 0, 0)]
def e_in_127 : List (Nat × Instr × Nat) := [(0, .iconst 0, 1), (1, .istore_n 3, 1), (2, .iload_n 3, 1), (3, .iconst 3, 1), (4, .if_icmp .gt 21, 3), (7, .lload_n 1, 1), (8, .aload_n 0, 1), (9, .getfield 8, 3), (12, .iload_n 3, 1), (13, .iaload, 1), (14, .i2l, 1), (15, .invokestatic 28, 3), (18, .lstore_n 1, 1), (19, .iinc 3 1, 3), (22, .goto (-20), 3), (25, .lload_n 1, 1), (26, .lreturn, 1)]
/-- EvenWheel.Rules.mixInto(J)J -/
def e_pg_127 : List (Nat × e_PI) := [(0, 0, 1, 0, 0, 0), (1, 4, 3, 1, 0, 0), (2, 1, 3, 1, 0, 0), (3, 0, 1, 0, 0, 3), (4, 29, 4, 25, 0, 0), (7, 3, 1, 1, 0, 0), (8, 2, 0, 1, 0, 0), (9, 30, 56, 8, 0, 0), (12, 1, 3, 1, 0, 0), (13, 32, 0, 0, 0, 0), (14, 19, 0, 0, 0, 0), (15, 44, 4095, 191, 2, 0), (18, 6, 1, 1, 0, 0), (19, 7, 3, 0, 0, 1), (22, 27, 2, 0, 0, 0), (25, 3, 1, 1, 0, 0), (26, 53, 0, 0, 0, 0)]
def e_in_128 : List (Nat × Instr × Nat) := [(0, .aload_n 0, 1), (1, .invokespecial 3, 3), (4, .aload_n 0, 1), (5, .bipush 30, 2), (7, .newarray .int, 2), (9, .putfield 9, 3), (12, .aload_n 0, 1), (13, .bipush 30, 2), (15, .newarray .int, 2), (17, .putfield 15, 3), (20, .aload_n 0, 1), (21, .bipush 30, 2), (23, .newarray .int, 2), (25, .putfield 18, 3), (28, .aload_n 0, 1), (29, .bipush 6, 2), (31, .invokevirtual 21, 3), (34, .return_, 1)]
/-- EvenWheel.Wheel.init()V -/
def e_pg_128 : List (Nat × e_PI) := [(0, 2, 0, 1, 0, 0), (1, 46, 256, 0, 0, 0), (4, 2, 0, 1, 0, 0), (5, 0, 2, 0, 0, 30), (7, 40, 0, 0, 0, 0), (9, 31, 59, 9, 0, 2), (12, 2, 0, 1, 0, 0), (13, 0, 2, 0, 0, 30), (15, 40, 0, 0, 0, 0), (17, 31, 60, 9, 1, 2), (20, 2, 0, 1, 0, 0), (21, 0, 2, 0, 0, 30), (23, 40, 0, 0, 0, 0), (25, 31, 61, 9, 2, 2), (28, 2, 0, 1, 0, 0), (29, 0, 2, 0, 0, 6), (31, 44, 4121, 130, 2, 0), (34, 50, 0, 0, 0, 0)]
def e_in_129 : List (Nat × Instr × Nat) := [(0, .iload_n 0, 1), (1, .lookupswitch 63 #[(6, 51), (10, 54), (12, 57), (20, 59), (30, 61)], 51), (52, .bipush 10, 2), (54, .ireturn, 1), (55, .bipush 6, 2), (57, .ireturn, 1), (58, .iconst 5, 1), (59, .ireturn, 1), (60, .iconst 3, 1), (61, .ireturn, 1), (62, .iconst 2, 1), (63, .ireturn, 1), (64, .iconst 0, 1), (65, .ireturn, 1)]
/-- EvenWheel.Wheel.sixtiethsApart(I)I -/
def e_pg_129 : List (Nat × e_PI) := [(0, 1, 0, 1, 0, 0), (1, 48, 1, 0, 0, 0), (52, 0, 2, 0, 0, 10), (54, 51, 0, 0, 0, 0), (55, 0, 2, 0, 0, 6), (57, 51, 0, 0, 0, 0), (58, 0, 1, 0, 0, 5), (59, 51, 0, 0, 0, 0), (60, 0, 1, 0, 0, 3), (61, 51, 0, 0, 0, 0), (62, 0, 1, 0, 0, 2), (63, 51, 0, 0, 0, 0), (64, 0, 1, 0, 0, 0), (65, 51, 0, 0, 0, 0)]
def e_in_130 : List (Nat × Instr × Nat) := [(0, .iload_n 1, 1), (1, .invokestatic 25, 3), (4, .istore_n 2, 1), (5, .iload_n 2, 1), (6, .ifCond .ne 4, 3), (9, .return_, 1), (10, .aload_n 0, 1), (11, .iload_n 1, 1), (12, .putfield 29, 3), (15, .aload_n 0, 1), (16, .iconst 0, 1), (17, .putfield 33, 3), (20, .aload_n 0, 1), (21, .getfield 15, 3), (24, .iconst 0, 1), (25, .invokestatic 36, 3), (28, .aload_n 0, 1), (29, .getfield 18, 3), (32, .iconst 0, 1), (33, .invokestatic 36, 3), (36, .iconst 0, 1), (37, .istore_n 3, 1), (38, .iload_n 3, 1), (39, .iload_n 1, 1), (40, .if_icmp .ge 21, 3), (43, .aload_n 0, 1), (44, .getfield 9, 3), (47, .iload_n 3, 1), (48, .iload_n 3, 1), (49, .iload_n 2, 1), (50, .imul, 1), (51, .invokestatic 42, 3), (54, .iastore, 1), (55, .iinc 3 1, 3), (58, .goto (-20), 3), (61, .return_, 1)]
/-- EvenWheel.Wheel.lay(I)V -/
def e_pg_130 : List (Nat × e_PI) := [(0, 1, 1, 1, 0, 0), (1, 44, 4143, 129, 1, 0), (4, 4, 2, 1, 0, 0), (5, 1, 2, 1, 0, 0), (6, 28, 1, 10, 0, 0), (9, 50, 0, 0, 0, 0), (10, 2, 0, 1, 0, 0), (11, 1, 1, 1, 0, 0), (12, 31, 62, 9, 3, 0), (15, 2, 0, 1, 0, 0), (16, 0, 1, 0, 0, 0), (17, 31, 63, 9, 4, 0), (20, 2, 0, 1, 0, 0), (21, 30, 60, 9, 1, 0), (24, 0, 1, 0, 0, 0), (25, 44, 4159, 267, 2, 0), (28, 2, 0, 1, 0, 0), (29, 30, 61, 9, 2, 0), (32, 0, 1, 0, 0, 0), (33, 44, 4159, 267, 2, 0), (36, 0, 1, 0, 0, 0), (37, 4, 3, 1, 0, 0), (38, 1, 3, 1, 0, 0), (39, 1, 1, 1, 0, 0), (40, 29, 3, 61, 0, 0), (43, 2, 0, 1, 0, 0), (44, 30, 59, 9, 0, 0), (47, 1, 3, 1, 0, 0), (48, 1, 3, 1, 0, 0), (49, 1, 2, 1, 0, 0), (50, 10, 0, 0, 0, 0), (51, 44, 4175, 131, 1, 0), (54, 33, 0, 0, 0, 0), (55, 7, 3, 0, 0, 1), (58, 27, 38, 0, 0, 0), (61, 50, 0, 0, 0, 0)]
def e_in_131 : List (Nat × Instr × Nat) := [(0, .iload_n 0, 1), (1, .bipush 30, 2), (3, .if_icmp .le 10, 3), (6, .iload_n 0, 1), (7, .bipush 30, 2), (9, .isub, 1), (10, .goto 4, 3), (13, .iload_n 0, 1), (14, .istore_n 1, 1), (15, .iload_n 1, 1), (16, .bipush 30, 2), (18, .iload_n 1, 1), (19, .isub, 1), (20, .invokestatic 45, 3), (23, .istore_n 2, 1), (24, .iload_n 2, 1), (25, .ifCond .lt 19, 3), (28, .iload_n 2, 1), (29, .getstatic 51, 3), (32, .arraylength, 1), (33, .if_icmp .ge 11, 3), (36, .getstatic 51, 3), (39, .iload_n 2, 1), (40, .iaload, 1), (41, .goto 4, 3), (44, .iconst 0, 1), (45, .istore_n 3, 1), (46, .iload_n 0, 1), (47, .bipush 30, 2), (49, .if_icmp .le 8, 3), (52, .iload_n 3, 1), (53, .ineg, 1), (54, .goto 4, 3), (57, .iload_n 3, 1), (58, .ireturn, 1)]
/-- EvenWheel.Wheel.armAtSixtieth(I)I -/
def e_pg_131 : List (Nat × e_PI) := [(0, 1, 0, 1, 0, 0), (1, 0, 2, 0, 0, 30), (3, 29, 5, 13, 0, 0), (6, 1, 0, 1, 0, 0), (7, 0, 2, 0, 0, 30), (9, 9, 0, 0, 0, 0), (10, 27, 14, 0, 0, 0), (13, 1, 0, 1, 0, 0), (14, 4, 1, 1, 0, 0), (15, 1, 1, 1, 0, 0), (16, 0, 2, 0, 0, 30), (18, 1, 1, 1, 0, 0), (19, 9, 0, 0, 0, 0), (20, 44, 4191, 266, 2, 0), (23, 4, 2, 1, 0, 0), (24, 1, 2, 1, 0, 0), (25, 28, 2, 44, 0, 0), (28, 1, 2, 1, 0, 0), (29, 39, 64, 1001, 0, 0), (32, 38, 0, 0, 0, 0), (33, 29, 3, 44, 0, 0), (36, 39, 64, 1001, 0, 0), (39, 1, 2, 1, 0, 0), (40, 32, 0, 0, 0, 0), (41, 27, 45, 0, 0, 0), (44, 0, 1, 0, 0, 0), (45, 4, 3, 1, 0, 0), (46, 1, 0, 1, 0, 0), (47, 0, 2, 0, 0, 30), (49, 29, 5, 57, 0, 0), (52, 1, 3, 1, 0, 0), (53, 11, 0, 0, 0, 0), (54, 27, 58, 0, 0, 0), (57, 1, 3, 1, 0, 0), (58, 51, 0, 0, 0, 0)]
def e_in_132 : List (Nat × Instr × Nat) := [(0, .iload_n 1, 1), (1, .ifCond .lt 15, 3), (4, .iload_n 1, 1), (5, .aload_n 0, 1), (6, .getfield 29, 3), (9, .if_icmp .ge 7, 3), (12, .iconst 1, 1), (13, .goto 4, 3), (16, .iconst 0, 1), (17, .ireturn, 1)]
/-- EvenWheel.Wheel.has(I)Z -/
def e_pg_132 : List (Nat × e_PI) := [(0, 1, 1, 1, 0, 0), (1, 28, 2, 16, 0, 0), (4, 1, 1, 1, 0, 0), (5, 2, 0, 1, 0, 0), (6, 30, 62, 9, 3, 0), (9, 29, 3, 16, 0, 0), (12, 0, 1, 0, 0, 1), (13, 27, 17, 0, 0, 0), (16, 0, 1, 0, 0, 0), (17, 52, 0, 0, 0, 0)]
def e_in_133 : List (Nat × Instr × Nat) := [(0, .aload_n 0, 1), (1, .getfield 29, 3), (4, .ireturn, 1)]
/-- EvenWheel.Wheel.count()I -/
def e_pg_133 : List (Nat × e_PI) := [(0, 2, 0, 1, 0, 0), (1, 30, 62, 9, 3, 0), (4, 51, 0, 0, 0, 0)]
def e_in_134 : List (Nat × Instr × Nat) := [(0, .aload_n 0, 1), (1, .getfield 33, 3), (4, .ireturn, 1)]
/-- EvenWheel.Wheel.turnNow()I -/
def e_pg_134 : List (Nat × e_PI) := [(0, 2, 0, 1, 0, 0), (1, 30, 63, 9, 4, 0), (4, 51, 0, 0, 0, 0)]
def e_in_135 : List (Nat × Instr × Nat) := [(0, .aload_n 0, 1), (1, .iload_n 1, 1), (2, .invokevirtual 54, 3), (5, .ifCond .eq 8, 3), (8, .aload_n 0, 1), (9, .iload_n 1, 1), (10, .putfield 33, 3), (13, .return_, 1)]
/-- EvenWheel.Wheel.turnTo(I)V -/
def e_pg_135 : List (Nat × e_PI) := [(0, 2, 0, 1, 0, 0), (1, 1, 1, 1, 0, 0), (2, 44, 4201, 132, 2, 0), (5, 28, 0, 13, 0, 0), (8, 2, 0, 1, 0, 0), (9, 1, 1, 1, 0, 0), (10, 31, 63, 9, 4, 0), (13, 50, 0, 0, 0, 0)]
def e_in_136 : List (Nat × Instr × Nat) := [(0, .iload_n 1, 1), (1, .iconst 1, 1), (2, .iadd, 1), (3, .aload_n 0, 1), (4, .getfield 29, 3), (7, .if_icmp .ge 9, 3), (10, .iload_n 1, 1), (11, .iconst 1, 1), (12, .iadd, 1), (13, .goto 4, 3), (16, .iconst 0, 1), (17, .ireturn, 1)]
/-- EvenWheel.Wheel.turnBehind(I)I -/
def e_pg_136 : List (Nat × e_PI) := [(0, 1, 1, 1, 0, 0), (1, 0, 1, 0, 0, 1), (2, 8, 0, 0, 0, 0), (3, 2, 0, 1, 0, 0), (4, 30, 62, 9, 3, 0), (7, 29, 3, 16, 0, 0), (10, 1, 1, 1, 0, 0), (11, 0, 1, 0, 0, 1), (12, 8, 0, 0, 0, 0), (13, 27, 17, 0, 0, 0), (16, 0, 1, 0, 0, 0), (17, 51, 0, 0, 0, 0)]
def e_in_137 : List (Nat × Instr × Nat) := [(0, .iload_n 1, 1), (1, .ifCond .le 9, 3), (4, .iload_n 1, 1), (5, .iconst 1, 1), (6, .isub, 1), (7, .goto 9, 3), (10, .aload_n 0, 1), (11, .getfield 29, 3), (14, .iconst 1, 1), (15, .isub, 1), (16, .ireturn, 1)]
/-- EvenWheel.Wheel.turnAhead(I)I -/
def e_pg_137 : List (Nat × e_PI) := [(0, 1, 1, 1, 0, 0), (1, 28, 5, 10, 0, 0), (4, 1, 1, 1, 0, 0), (5, 0, 1, 0, 0, 1), (6, 9, 0, 0, 0, 0), (7, 27, 16, 0, 0, 0), (10, 2, 0, 1, 0, 0), (11, 30, 62, 9, 3, 0), (14, 0, 1, 0, 0, 1), (15, 9, 0, 0, 0, 0), (16, 51, 0, 0, 0, 0)]
def e_in_138 : List (Nat × Instr × Nat) := [(0, .aload_n 0, 1), (1, .aload_n 0, 1), (2, .getfield 33, 3), (5, .invokevirtual 58, 3), (8, .ireturn, 1)]
/-- EvenWheel.Wheel.atDoor()I -/
def e_pg_138 : List (Nat × e_PI) := [(0, 2, 0, 1, 0, 0), (1, 2, 0, 1, 0, 0), (2, 30, 63, 9, 4, 0), (5, 44, 4217, 139, 2, 0), (8, 51, 0, 0, 0, 0)]
def e_in_139 : List (Nat × Instr × Nat) := [(0, .iload_n 1, 1), (1, .ifCond .ne 7, 3), (4, .iconst 0, 1), (5, .goto 9, 3), (8, .aload_n 0, 1), (9, .getfield 29, 3), (12, .iload_n 1, 1), (13, .isub, 1), (14, .ireturn, 1)]
/-- EvenWheel.Wheel.atDoorWith(I)I -/
def e_pg_139 : List (Nat × e_PI) := [(0, 1, 1, 1, 0, 0), (1, 28, 1, 8, 0, 0), (4, 0, 1, 0, 0, 0), (5, 27, 14, 0, 0, 0), (8, 2, 0, 1, 0, 0), (9, 30, 62, 9, 3, 0), (12, 1, 1, 1, 0, 0), (13, 9, 0, 0, 0, 0), (14, 51, 0, 0, 0, 0)]
def e_in_140 : List (Nat × Instr × Nat) := [(0, .iload_n 1, 1), (1, .ifCond .ne 7, 3), (4, .iconst 0, 1), (5, .goto 9, 3), (8, .aload_n 0, 1), (9, .getfield 29, 3), (12, .iload_n 1, 1), (13, .isub, 1), (14, .ireturn, 1)]
/-- EvenWheel.Wheel.turnFor(I)I -/
def e_pg_140 : List (Nat × e_PI) := [(0, 1, 1, 1, 0, 0), (1, 28, 1, 8, 0, 0), (4, 0, 1, 0, 0, 0), (5, 27, 14, 0, 0, 0), (8, 2, 0, 1, 0, 0), (9, 30, 62, 9, 3, 0), (12, 1, 1, 1, 0, 0), (13, 9, 0, 0, 0, 0), (14, 51, 0, 0, 0, 0)]
def e_in_141 : List (Nat × Instr × Nat) := [(0, .aload_n 0, 1), (1, .getfield 29, 3), (4, .iconst 2, 1), (5, .idiv, 1), (6, .aload_n 0, 1), (7, .getfield 33, 3), (10, .isub, 1), (11, .istore_n 1, 1), (12, .iload_n 1, 1), (13, .ifCond .lt 7, 3), (16, .iload_n 1, 1), (17, .goto 9, 3), (20, .iload_n 1, 1), (21, .aload_n 0, 1), (22, .getfield 29, 3), (25, .iadd, 1), (26, .ireturn, 1)]
/-- EvenWheel.Wheel.atTop()I -/
def e_pg_141 : List (Nat × e_PI) := [(0, 2, 0, 1, 0, 0), (1, 30, 62, 9, 3, 0), (4, 0, 1, 0, 0, 2), (5, 12, 0, 0, 0, 0), (6, 2, 0, 1, 0, 0), (7, 30, 63, 9, 4, 0), (10, 9, 0, 0, 0, 0), (11, 4, 1, 1, 0, 0), (12, 1, 1, 1, 0, 0), (13, 28, 2, 20, 0, 0), (16, 1, 1, 1, 0, 0), (17, 27, 26, 0, 0, 0), (20, 1, 1, 1, 0, 0), (21, 2, 0, 1, 0, 0), (22, 30, 62, 9, 3, 0), (25, 8, 0, 0, 0, 0), (26, 51, 0, 0, 0, 0)]
def e_in_142 : List (Nat × Instr × Nat) := [(0, .aload_n 0, 1), (1, .iload_n 1, 1), (2, .aload_n 0, 1), (3, .getfield 33, 3), (6, .invokevirtual 61, 3), (9, .ireturn, 1)]
/-- EvenWheel.Wheel.placeOf(I)I -/
def e_pg_142 : List (Nat × e_PI) := [(0, 2, 0, 1, 0, 0), (1, 1, 1, 1, 0, 0), (2, 2, 0, 1, 0, 0), (3, 30, 63, 9, 4, 0), (6, 44, 4233, 143, 3, 0), (9, 51, 0, 0, 0, 0)]
def e_in_143 : List (Nat × Instr × Nat) := [(0, .iload_n 1, 1), (1, .iload_n 2, 1), (2, .iadd, 1), (3, .aload_n 0, 1), (4, .getfield 29, 3), (7, .if_icmp .ge 9, 3), (10, .iload_n 1, 1), (11, .iload_n 2, 1), (12, .iadd, 1), (13, .goto 11, 3), (16, .iload_n 1, 1), (17, .iload_n 2, 1), (18, .iadd, 1), (19, .aload_n 0, 1), (20, .getfield 29, 3), (23, .isub, 1), (24, .ireturn, 1)]
/-- EvenWheel.Wheel.placeWith(II)I -/
def e_pg_143 : List (Nat × e_PI) := [(0, 1, 1, 1, 0, 0), (1, 1, 2, 1, 0, 0), (2, 8, 0, 0, 0, 0), (3, 2, 0, 1, 0, 0), (4, 30, 62, 9, 3, 0), (7, 29, 3, 16, 0, 0), (10, 1, 1, 1, 0, 0), (11, 1, 2, 1, 0, 0), (12, 8, 0, 0, 0, 0), (13, 27, 24, 0, 0, 0), (16, 1, 1, 1, 0, 0), (17, 1, 2, 1, 0, 0), (18, 8, 0, 0, 0, 0), (19, 2, 0, 1, 0, 0), (20, 30, 62, 9, 3, 0), (23, 9, 0, 0, 0, 0), (24, 51, 0, 0, 0, 0)]
def e_in_144 : List (Nat × Instr × Nat) := [(0, .aload_n 0, 1), (1, .iload_n 1, 1), (2, .iload_n 2, 1), (3, .invokevirtual 61, 3), (6, .istore_n 3, 1), (7, .aload_n 0, 1), (8, .iload_n 3, 1), (9, .invokevirtual 54, 3), (12, .ifCond .eq 12, 3), (15, .aload_n 0, 1), (16, .getfield 9, 3), (19, .iload_n 3, 1), (20, .iaload, 1), (21, .goto 4, 3), (24, .iconst 0, 1), (25, .ireturn, 1)]
/-- EvenWheel.Wheel.armOf(II)I -/
def e_pg_144 : List (Nat × e_PI) := [(0, 2, 0, 1, 0, 0), (1, 1, 1, 1, 0, 0), (2, 1, 2, 1, 0, 0), (3, 44, 4233, 143, 3, 0), (6, 4, 3, 1, 0, 0), (7, 2, 0, 1, 0, 0), (8, 1, 3, 1, 0, 0), (9, 44, 4201, 132, 2, 0), (12, 28, 0, 24, 0, 0), (15, 2, 0, 1, 0, 0), (16, 30, 59, 9, 0, 0), (19, 1, 3, 1, 0, 0), (20, 32, 0, 0, 0, 0), (21, 27, 25, 0, 0, 0), (24, 0, 1, 0, 0, 0), (25, 51, 0, 0, 0, 0)]
def e_in_145 : List (Nat × Instr × Nat) := [(0, .aload_n 0, 1), (1, .iload_n 1, 1), (2, .invokevirtual 54, 3), (5, .ifCond .eq 12, 3), (8, .aload_n 0, 1), (9, .getfield 15, 3), (12, .iload_n 1, 1), (13, .iaload, 1), (14, .goto 4, 3), (17, .iconst 0, 1), (18, .ireturn, 1)]
/-- EvenWheel.Wheel.loadOf(I)I -/
def e_pg_145 : List (Nat × e_PI) := [(0, 2, 0, 1, 0, 0), (1, 1, 1, 1, 0, 0), (2, 44, 4201, 132, 2, 0), (5, 28, 0, 17, 0, 0), (8, 2, 0, 1, 0, 0), (9, 30, 60, 9, 1, 0), (12, 1, 1, 1, 0, 0), (13, 32, 0, 0, 0, 0), (14, 27, 18, 0, 0, 0), (17, 0, 1, 0, 0, 0), (18, 51, 0, 0, 0, 0)]
def e_in_146 : List (Nat × Instr × Nat) := [(0, .aload_n 0, 1), (1, .iload_n 1, 1), (2, .invokevirtual 54, 3), (5, .ifCond .ne 4, 3), (8, .return_, 1), (9, .aload_n 0, 1), (10, .getfield 15, 3), (13, .iload_n 1, 1), (14, .dup2, 1), (15, .iaload, 1), (16, .iload_n 2, 1), (17, .iadd, 1), (18, .iastore, 1), (19, .iconst 0, 1), (20, .istore_n 3, 1), (21, .iload_n 3, 1), (22, .aload_n 0, 1), (23, .getfield 29, 3), (26, .if_icmp .ge 26, 3), (29, .aload_n 0, 1), (30, .getfield 18, 3), (33, .iload_n 3, 1), (34, .dup2, 1), (35, .iaload, 1), (36, .iload_n 2, 1), (37, .aload_n 0, 1), (38, .iload_n 1, 1), (39, .iload_n 3, 1), (40, .invokevirtual 64, 3), (43, .imul, 1), (44, .iadd, 1), (45, .iastore, 1), (46, .iinc 3 1, 3), (49, .goto (-28), 3), (52, .return_, 1)]
/-- EvenWheel.Wheel.addLoad(II)V -/
def e_pg_146 : List (Nat × e_PI) := [(0, 2, 0, 1, 0, 0), (1, 1, 1, 1, 0, 0), (2, 44, 4201, 132, 2, 0), (5, 28, 1, 9, 0, 0), (8, 50, 0, 0, 0, 0), (9, 2, 0, 1, 0, 0), (10, 30, 60, 9, 1, 0), (13, 1, 1, 1, 0, 0), (14, 25, 0, 0, 0, 0), (15, 32, 0, 0, 0, 0), (16, 1, 2, 1, 0, 0), (17, 8, 0, 0, 0, 0), (18, 33, 0, 0, 0, 0), (19, 0, 1, 0, 0, 0), (20, 4, 3, 1, 0, 0), (21, 1, 3, 1, 0, 0), (22, 2, 0, 1, 0, 0), (23, 30, 62, 9, 3, 0), (26, 29, 3, 52, 0, 0), (29, 2, 0, 1, 0, 0), (30, 30, 61, 9, 2, 0), (33, 1, 3, 1, 0, 0), (34, 25, 0, 0, 0, 0), (35, 32, 0, 0, 0, 0), (36, 1, 2, 1, 0, 0), (37, 2, 0, 1, 0, 0), (38, 1, 1, 1, 0, 0), (39, 1, 3, 1, 0, 0), (40, 44, 4249, 144, 3, 0), (43, 10, 0, 0, 0, 0), (44, 8, 0, 0, 0, 0), (45, 33, 0, 0, 0, 0), (46, 7, 3, 0, 0, 1), (49, 27, 21, 0, 0, 0), (52, 50, 0, 0, 0, 0)]
def e_in_147 : List (Nat × Instr × Nat) := [(0, .aload_n 0, 1), (1, .iload_n 1, 1), (2, .invokevirtual 54, 3), (5, .ifCond .eq 12, 3), (8, .aload_n 0, 1), (9, .getfield 18, 3), (12, .iload_n 1, 1), (13, .iaload, 1), (14, .goto 4, 3), (17, .iconst 0, 1), (18, .ireturn, 1)]
/-- EvenWheel.Wheel.leanAt(I)I -/
def e_pg_147 : List (Nat × e_PI) := [(0, 2, 0, 1, 0, 0), (1, 1, 1, 1, 0, 0), (2, 44, 4201, 132, 2, 0), (5, 28, 0, 17, 0, 0), (8, 2, 0, 1, 0, 0), (9, 30, 61, 9, 2, 0), (12, 1, 1, 1, 0, 0), (13, 32, 0, 0, 0, 0), (14, 27, 18, 0, 0, 0), (17, 0, 1, 0, 0, 0), (18, 51, 0, 0, 0, 0)]
def e_in_148 : List (Nat × Instr × Nat) := [(0, .aload_n 0, 1), (1, .iconst 0, 1), (2, .iconst 0, 1), (3, .invokevirtual 67, 3), (6, .ireturn, 1)]
/-- EvenWheel.Wheel.greatestLean()I -/
def e_pg_148 : List (Nat × e_PI) := [(0, 2, 0, 1, 0, 0), (1, 0, 1, 0, 0, 0), (2, 0, 1, 0, 0, 0), (3, 44, 4265, 149, 3, 0), (6, 51, 0, 0, 0, 0)]
def e_in_149 : List (Nat × Instr × Nat) := [(0, .iconst 0, 1), (1, .istore_n 3, 1), (2, .iconst 0, 1), (3, .istore 4, 2), (5, .iload 4, 2), (7, .aload_n 0, 1), (8, .getfield 29, 3), (11, .if_icmp .ge 34, 3), (14, .iload_n 3, 1), (15, .aload_n 0, 1), (16, .getfield 18, 3), (19, .iload 4, 2), (21, .iaload, 1), (22, .iload_n 2, 1), (23, .aload_n 0, 1), (24, .iload_n 1, 1), (25, .iload 4, 2), (27, .invokevirtual 64, 3), (30, .imul, 1), (31, .iadd, 1), (32, .invokestatic 70, 3), (35, .invokestatic 73, 3), (38, .istore_n 3, 1), (39, .iinc 4 1, 3), (42, .goto (-37), 3), (45, .iload_n 3, 1), (46, .ireturn, 1)]
/-- EvenWheel.Wheel.greatestWith(II)I -/
def e_pg_149 : List (Nat × e_PI) := [(0, 0, 1, 0, 0, 0), (1, 4, 3, 1, 0, 0), (2, 0, 1, 0, 0, 0), (3, 4, 4, 2, 0, 0), (5, 1, 4, 2, 0, 0), (7, 2, 0, 1, 0, 0), (8, 30, 62, 9, 3, 0), (11, 29, 3, 45, 0, 0), (14, 1, 3, 1, 0, 0), (15, 2, 0, 1, 0, 0), (16, 30, 61, 9, 2, 0), (19, 1, 4, 2, 0, 0), (21, 32, 0, 0, 0, 0), (22, 1, 2, 1, 0, 0), (23, 2, 0, 1, 0, 0), (24, 1, 1, 1, 0, 0), (25, 1, 4, 2, 0, 0), (27, 44, 4249, 144, 3, 0), (30, 10, 0, 0, 0, 0), (31, 8, 0, 0, 0, 0), (32, 44, 4287, 264, 1, 0), (35, 44, 4303, 265, 2, 0), (38, 4, 3, 1, 0, 0), (39, 7, 4, 0, 0, 1), (42, 27, 5, 0, 0, 0), (45, 1, 3, 1, 0, 0), (46, 51, 0, 0, 0, 0)]
def e_in_150 : List (Nat × Instr × Nat) := [(0, .iconst 0, 1), (1, .istore_n 1, 1), (2, .iconst 1, 1), (3, .istore_n 2, 1), (4, .iload_n 2, 1), (5, .aload_n 0, 1), (6, .getfield 29, 3), (9, .if_icmp .ge 32, 3), (12, .aload_n 0, 1), (13, .getfield 18, 3), (16, .iload_n 2, 1), (17, .iaload, 1), (18, .invokestatic 70, 3), (21, .aload_n 0, 1), (22, .getfield 18, 3), (25, .iload_n 1, 1), (26, .iaload, 1), (27, .invokestatic 70, 3), (30, .if_icmp .le 5, 3), (33, .iload_n 2, 1), (34, .istore_n 1, 1), (35, .iinc 2 1, 3), (38, .goto (-34), 3), (41, .iload_n 1, 1), (42, .ireturn, 1)]
/-- EvenWheel.Wheel.worstTurn()I -/
def e_pg_150 : List (Nat × e_PI) := [(0, 0, 1, 0, 0, 0), (1, 4, 1, 1, 0, 0), (2, 0, 1, 0, 0, 1), (3, 4, 2, 1, 0, 0), (4, 1, 2, 1, 0, 0), (5, 2, 0, 1, 0, 0), (6, 30, 62, 9, 3, 0), (9, 29, 3, 41, 0, 0), (12, 2, 0, 1, 0, 0), (13, 30, 61, 9, 2, 0), (16, 1, 2, 1, 0, 0), (17, 32, 0, 0, 0, 0), (18, 44, 4287, 264, 1, 0), (21, 2, 0, 1, 0, 0), (22, 30, 61, 9, 2, 0), (25, 1, 1, 1, 0, 0), (26, 32, 0, 0, 0, 0), (27, 44, 4287, 264, 1, 0), (30, 29, 5, 35, 0, 0), (33, 1, 2, 1, 0, 0), (34, 4, 1, 1, 0, 0), (35, 7, 2, 0, 0, 1), (38, 27, 4, 0, 0, 0), (41, 1, 1, 1, 0, 0), (42, 51, 0, 0, 0, 0)]
def e_in_151 : List (Nat × Instr × Nat) := [(0, .aload_n 0, 1), (1, .invokespecial 1, 3), (4, .aload_n 0, 1), (5, .new 7, 3), (8, .dup, 1), (9, .invokespecial 9, 3), (12, .putfield 10, 3), (15, .aload_n 0, 1), (16, .new 16, 3), (19, .dup, 1), (20, .invokespecial 18, 3), (23, .putfield 19, 3), (26, .aload_n 0, 1), (27, .new 23, 3), (30, .dup, 1), (31, .aload_n 0, 1), (32, .getfield 19, 3), (35, .aload_n 0, 1), (36, .getfield 10, 3), (39, .invokespecial 25, 3), (42, .putfield 28, 3), (45, .aload_n 0, 1), (46, .new 32, 3), (49, .dup, 1), (50, .aload_n 0, 1), (51, .getfield 19, 3), (54, .aload_n 0, 1), (55, .getfield 10, 3), (58, .invokespecial 34, 3), (61, .putfield 35, 3), (64, .aload_n 0, 1), (65, .new 39, 3), (68, .dup, 1), (69, .aload_n 0, 1), (70, .getfield 19, 3), (73, .invokespecial 41, 3), (76, .putfield 44, 3), (79, .aload_n 0, 1), (80, .new 48, 3), (83, .dup, 1), (84, .aload_n 0, 1), (85, .getfield 19, 3), (88, .aload_n 0, 1), (89, .getfield 35, 3), (92, .invokespecial 50, 3), (95, .putfield 53, 3), (98, .aload_n 0, 1), (99, .new 57, 3), (102, .dup, 1), (103, .aload_n 0, 1), (104, .getfield 19, 3), (107, .invokespecial 59, 3), (110, .putfield 60, 3), (113, .aload_n 0, 1), (114, .new 64, 3), (117, .dup, 1), (118, .aload_n 0, 1), (119, .getfield 19, 3), (122, .invokespecial 66, 3), (125, .putfield 67, 3), (128, .return_, 1)]
/-- EvenWheel.init()V -/
def e_pg_151 : List (Nat × e_PI) := [(0, 2, 0, 1, 0, 0), (1, 46, 0, 0, 0, 0), (4, 2, 0, 1, 0, 0), (5, 43, 0, 8, 0, 0), (8, 24, 0, 0, 0, 0), (9, 44, 24, 122, 1, 0), (12, 31, 0, 10, 0, 2), (15, 2, 0, 1, 0, 0), (16, 43, 1, 9, 0, 0), (19, 24, 0, 0, 0, 0), (20, 44, 41, 128, 1, 0), (23, 31, 1, 10, 1, 2), (26, 2, 0, 1, 0, 0), (27, 43, 2, 4, 0, 0), (30, 24, 0, 0, 0, 0), (31, 2, 0, 1, 0, 0), (32, 30, 1, 10, 1, 0), (35, 2, 0, 1, 0, 0), (36, 30, 0, 10, 0, 0), (39, 44, 52, 67, 3, 0), (42, 31, 2, 10, 2, 2), (45, 2, 0, 1, 0, 0), (46, 43, 3, 5, 0, 0), (49, 24, 0, 0, 0, 0), (50, 2, 0, 1, 0, 0), (51, 30, 1, 10, 1, 0), (54, 2, 0, 1, 0, 0), (55, 30, 0, 10, 0, 0), (58, 44, 69, 77, 3, 0), (61, 31, 3, 10, 3, 2), (64, 2, 0, 1, 0, 0), (65, 43, 4, 0, 0, 0), (68, 24, 0, 0, 0, 0), (69, 2, 0, 1, 0, 0), (70, 30, 1, 10, 1, 0), (73, 44, 80, 0, 2, 0), (76, 31, 4, 10, 4, 2), (79, 2, 0, 1, 0, 0), (80, 43, 5, 6, 0, 0), (83, 24, 0, 0, 0, 0), (84, 2, 0, 1, 0, 0), (85, 30, 1, 10, 1, 0), (88, 2, 0, 1, 0, 0), (89, 30, 3, 10, 3, 0), (92, 44, 102, 101, 3, 0), (95, 31, 5, 10, 5, 2), (98, 2, 0, 1, 0, 0), (99, 43, 6, 1, 0, 0), (102, 24, 0, 0, 0, 0), (103, 2, 0, 1, 0, 0), (104, 30, 1, 10, 1, 0), (107, 44, 113, 18, 2, 0), (110, 31, 6, 10, 6, 2), (113, 2, 0, 1, 0, 0), (114, 43, 7, 3, 0, 0), (117, 24, 0, 0, 0, 0), (118, 2, 0, 1, 0, 0), (119, 30, 1, 10, 1, 0), (122, 44, 131, 49, 2, 0), (125, 31, 7, 10, 7, 2), (128, 50, 0, 0, 0, 0)]
def e_in_152 : List (Nat × Instr × Nat) := [(0, .iload_n 1, 1), (1, .invokestatic 71, 3), (4, .ifCond .ne 6, 3), (7, .bipush (-102), 2), (9, .ireturn, 1), (10, .aload_n 0, 1), (11, .getfield 19, 3), (14, .iload_n 1, 1), (15, .invokevirtual 75, 3), (18, .aload_n 0, 1), (19, .getfield 28, 3), (22, .invokevirtual 79, 3), (25, .aload_n 0, 1), (26, .getfield 35, 3), (29, .invokevirtual 82, 3), (32, .aload_n 0, 1), (33, .getfield 60, 3), (36, .invokevirtual 83, 3), (39, .pop, 1), (40, .aload_n 0, 1), (41, .getfield 67, 3), (44, .invokevirtual 86, 3), (47, .iload_n 1, 1), (48, .ireturn, 1)]
/-- EvenWheel.build(I)I -/
def e_pg_152 : List (Nat × e_PI) := [(0, 1, 1, 1, 0, 0), (1, 44, 159, 129, 1, 0), (4, 28, 1, 10, 0, 0), (7, 0, 2, 0, 0, -102), (9, 51, 0, 0, 0, 0), (10, 2, 0, 1, 0, 0), (11, 30, 1, 10, 1, 0), (14, 1, 1, 1, 0, 0), (15, 44, 169, 130, 2, 0), (18, 2, 0, 1, 0, 0), (19, 30, 2, 10, 2, 0), (22, 44, 180, 68, 1, 0), (25, 2, 0, 1, 0, 0), (26, 30, 3, 10, 3, 0), (29, 44, 197, 78, 1, 0), (32, 2, 0, 1, 0, 0), (33, 30, 6, 10, 6, 0), (36, 44, 209, 20, 1, 0), (39, 26, 0, 0, 0, 0), (40, 2, 0, 1, 0, 0), (41, 30, 7, 10, 7, 0), (44, 44, 227, 50, 1, 0), (47, 1, 1, 1, 0, 0), (48, 51, 0, 0, 0, 0)]
def e_in_153 : List (Nat × Instr × Nat) := [(0, .aload_n 0, 1), (1, .getfield 19, 3), (4, .iload_n 1, 1), (5, .invokevirtual 87, 3), (8, .ifCond .eq 15, 3), (11, .aload_n 0, 1), (12, .getfield 19, 3), (15, .iload_n 1, 1), (16, .iconst 0, 1), (17, .invokevirtual 91, 3), (20, .goto 6, 3), (23, .sipush (-1000), 3), (26, .ireturn, 1)]
/-- EvenWheel.arm(I)I -/
def e_pg_153 : List (Nat × e_PI) := [(0, 2, 0, 1, 0, 0), (1, 30, 1, 10, 1, 0), (4, 1, 1, 1, 0, 0), (5, 44, 249, 132, 2, 0), (8, 28, 0, 23, 0, 0), (11, 2, 0, 1, 0, 0), (12, 30, 1, 10, 1, 0), (15, 1, 1, 1, 0, 0), (16, 0, 1, 0, 0, 0), (17, 44, 265, 144, 3, 0), (20, 27, 26, 0, 0, 0), (23, 0, 3, 0, 0, -1000), (26, 51, 0, 0, 0, 0)]
def e_in_154 : List (Nat × Instr × Nat) := [(0, .iload_n 1, 1), (1, .tableswitch 131 0 8 #[51, 59, 67, 75, 83, 91, 99, 107, 115], 51), (52, .aload_n 0, 1), (53, .getfield 19, 3), (56, .invokevirtual 95, 3), (59, .ireturn, 1), (60, .aload_n 0, 1), (61, .getfield 28, 3), (64, .invokevirtual 98, 3), (67, .ireturn, 1), (68, .aload_n 0, 1), (69, .getfield 19, 3), (72, .invokevirtual 101, 3), (75, .ireturn, 1), (76, .aload_n 0, 1), (77, .getfield 19, 3), (80, .invokevirtual 104, 3), (83, .ireturn, 1), (84, .aload_n 0, 1), (85, .getfield 35, 3), (88, .invokevirtual 107, 3), (91, .ireturn, 1), (92, .aload_n 0, 1), (93, .getfield 35, 3), (96, .invokevirtual 110, 3), (99, .ireturn, 1), (100, .aload_n 0, 1), (101, .getfield 28, 3), (104, .invokevirtual 113, 3), (107, .ireturn, 1), (108, .aload_n 0, 1), (109, .getfield 35, 3), (112, .invokevirtual 116, 3), (115, .ireturn, 1), (116, .aload_n 0, 1), (117, .getfield 28, 3), (120, .invokevirtual 119, 3), (123, .ifCond .eq 7, 3), (126, .iconst 1, 1), (127, .goto 4, 3), (130, .iconst 0, 1), (131, .ireturn, 1), (132, .bipush (-102), 2), (134, .ireturn, 1)]
/-- EvenWheel.told(I)I -/
def e_pg_154 : List (Nat × e_PI) := [(0, 1, 1, 1, 0, 0), (1, 47, 2, 0, 0, 0), (52, 2, 0, 1, 0, 0), (53, 30, 1, 10, 1, 0), (56, 44, 281, 134, 1, 0), (59, 51, 0, 0, 0, 0), (60, 2, 0, 1, 0, 0), (61, 30, 2, 10, 2, 0), (64, 44, 292, 69, 1, 0), (67, 51, 0, 0, 0, 0), (68, 2, 0, 1, 0, 0), (69, 30, 1, 10, 1, 0), (72, 44, 313, 138, 1, 0), (75, 51, 0, 0, 0, 0), (76, 2, 0, 1, 0, 0), (77, 30, 1, 10, 1, 0), (80, 44, 329, 141, 1, 0), (83, 51, 0, 0, 0, 0), (84, 2, 0, 1, 0, 0), (85, 30, 3, 10, 3, 0), (88, 44, 341, 85, 1, 0), (91, 51, 0, 0, 0, 0), (92, 2, 0, 1, 0, 0), (93, 30, 3, 10, 3, 0), (96, 44, 357, 86, 1, 0), (99, 51, 0, 0, 0, 0), (100, 2, 0, 1, 0, 0), (101, 30, 2, 10, 2, 0), (104, 44, 372, 70, 1, 0), (107, 51, 0, 0, 0, 0), (108, 2, 0, 1, 0, 0), (109, 30, 3, 10, 3, 0), (112, 44, 389, 80, 1, 0), (115, 51, 0, 0, 0, 0), (116, 2, 0, 1, 0, 0), (117, 30, 2, 10, 2, 0), (120, 44, 404, 71, 1, 0), (123, 28, 0, 130, 0, 0), (126, 0, 1, 0, 0, 1), (127, 27, 131, 0, 0, 0), (130, 0, 1, 0, 0, 0), (131, 51, 0, 0, 0, 0), (132, 0, 2, 0, 0, -102), (134, 51, 0, 0, 0, 0)]
def e_in_155 : List (Nat × Instr × Nat) := [(0, .iload_n 1, 1), (1, .invokestatic 123, 3), (4, .ifCond .ne 6, 3), (7, .bipush (-101), 2), (9, .ireturn, 1), (10, .iload_n 1, 1), (11, .iload_n 2, 1), (12, .invokestatic 126, 3), (15, .ifCond .ne 6, 3), (18, .bipush (-102), 2), (20, .ireturn, 1), (21, .aload_n 0, 1), (22, .getfield 10, 3), (25, .iload_n 1, 1), (26, .iload_n 2, 1), (27, .invokevirtual 130, 3), (30, .ireturn, 1)]
/-- EvenWheel.rule(II)I -/
def e_pg_155 : List (Nat × e_PI) := [(0, 1, 1, 1, 0, 0), (1, 44, 431, 123, 1, 0), (4, 28, 1, 10, 0, 0), (7, 0, 2, 0, 0, -101), (9, 51, 0, 0, 0, 0), (10, 1, 1, 1, 0, 0), (11, 1, 2, 1, 0, 0), (12, 44, 447, 124, 2, 0), (15, 28, 1, 21, 0, 0), (18, 0, 2, 0, 0, -102), (20, 51, 0, 0, 0, 0), (21, 2, 0, 1, 0, 0), (22, 30, 0, 10, 0, 0), (25, 1, 1, 1, 0, 0), (26, 1, 2, 1, 0, 0), (27, 44, 456, 126, 3, 0), (30, 51, 0, 0, 0, 0)]
def e_in_156 : List (Nat × Instr × Nat) := [(0, .aload_n 0, 1), (1, .getfield 28, 3), (4, .iload_n 1, 1), (5, .invokevirtual 133, 3), (8, .ifCond .eq 7, 3), (11, .iconst 1, 1), (12, .goto 4, 3), (15, .iconst 0, 1), (16, .ireturn, 1)]
/-- EvenWheel.drive(Z)I -/
def e_pg_156 : List (Nat × e_PI) := [(0, 2, 0, 1, 0, 0), (1, 30, 2, 10, 2, 0), (4, 1, 1, 1, 0, 0), (5, 44, 468, 72, 2, 0), (8, 28, 0, 15, 0, 0), (11, 0, 1, 0, 0, 1), (12, 27, 16, 0, 0, 0), (15, 0, 1, 0, 0, 0), (16, 51, 0, 0, 0, 0)]
def e_in_157 : List (Nat × Instr × Nat) := [(0, .aload_n 0, 1), (1, .getfield 19, 3), (4, .iload_n 1, 1), (5, .invokevirtual 87, 3), (8, .ifCond .eq 14, 3), (11, .aload_n 0, 1), (12, .getfield 19, 3), (15, .iload_n 1, 1), (16, .invokevirtual 137, 3), (19, .goto 5, 3), (22, .ldc 140, 2), (24, .ireturn, 1)]
/-- EvenWheel.lean(I)I -/
def e_pg_157 : List (Nat × e_PI) := [(0, 2, 0, 1, 0, 0), (1, 30, 1, 10, 1, 0), (4, 1, 1, 1, 0, 0), (5, 44, 249, 132, 2, 0), (8, 28, 0, 22, 0, 0), (11, 2, 0, 1, 0, 0), (12, 30, 1, 10, 1, 0), (15, 1, 1, 1, 0, 0), (16, 44, 489, 147, 2, 0), (19, 27, 24, 0, 0, 0), (22, 0, 2, 1, 0, -1000000001), (24, 51, 0, 0, 0, 0)]
def e_in_158 : List (Nat × Instr × Nat) := [(0, .aload_n 0, 1), (1, .getfield 19, 3), (4, .invokevirtual 141, 3), (7, .ireturn, 1)]
/-- EvenWheel.greatest()I -/
def e_pg_158 : List (Nat × e_PI) := [(0, 2, 0, 1, 0, 0), (1, 30, 1, 10, 1, 0), (4, 44, 505, 148, 1, 0), (7, 51, 0, 0, 0, 0)]
def e_in_159 : List (Nat × Instr × Nat) := [(0, .aload_n 0, 1), (1, .getfield 19, 3), (4, .invokevirtual 144, 3), (7, .ireturn, 1)]
/-- EvenWheel.worst()I -/
def e_pg_159 : List (Nat × e_PI) := [(0, 2, 0, 1, 0, 0), (1, 30, 1, 10, 1, 0), (4, 44, 521, 150, 1, 0), (7, 51, 0, 0, 0, 0)]
def e_in_160 : List (Nat × Instr × Nat) := [(0, .aload_n 0, 1), (1, .getfield 19, 3), (4, .iload_n 1, 1), (5, .invokevirtual 87, 3), (8, .ifCond .eq 14, 3), (11, .aload_n 0, 1), (12, .getfield 19, 3), (15, .iload_n 1, 1), (16, .invokevirtual 147, 3), (19, .goto 5, 3), (22, .bipush (-101), 2), (24, .ireturn, 1)]
/-- EvenWheel.load(I)I -/
def e_pg_160 : List (Nat × e_PI) := [(0, 2, 0, 1, 0, 0), (1, 30, 1, 10, 1, 0), (4, 1, 1, 1, 0, 0), (5, 44, 249, 132, 2, 0), (8, 28, 0, 22, 0, 0), (11, 2, 0, 1, 0, 0), (12, 30, 1, 10, 1, 0), (15, 1, 1, 1, 0, 0), (16, 44, 537, 145, 2, 0), (19, 27, 24, 0, 0, 0), (22, 0, 2, 0, 0, -101), (24, 51, 0, 0, 0, 0)]
def e_in_161 : List (Nat × Instr × Nat) := [(0, .aload_n 0, 1), (1, .getfield 19, 3), (4, .iload_n 1, 1), (5, .invokevirtual 87, 3), (8, .ifCond .ne 6, 3), (11, .bipush (-101), 2), (13, .ireturn, 1), (14, .iload_n 2, 1), (15, .tableswitch 73 0 3 #[29, 38, 47, 64], 29), (44, .aload_n 0, 1), (45, .getfield 35, 3), (48, .iload_n 1, 1), (49, .invokevirtual 150, 3), (52, .ireturn, 1), (53, .aload_n 0, 1), (54, .getfield 35, 3), (57, .iload_n 1, 1), (58, .invokevirtual 153, 3), (61, .ireturn, 1), (62, .aload_n 0, 1), (63, .getfield 35, 3), (66, .iload_n 1, 1), (67, .invokevirtual 156, 3), (70, .ifCond .eq 7, 3), (73, .iconst 1, 1), (74, .goto 4, 3), (77, .iconst 0, 1), (78, .ireturn, 1), (79, .aload_n 0, 1), (80, .getfield 19, 3), (83, .iload_n 1, 1), (84, .invokevirtual 159, 3), (87, .ireturn, 1), (88, .bipush (-102), 2), (90, .ireturn, 1)]
/-- EvenWheel.cabin(II)I -/
def e_pg_161 : List (Nat × e_PI) := [(0, 2, 0, 1, 0, 0), (1, 30, 1, 10, 1, 0), (4, 1, 1, 1, 0, 0), (5, 44, 249, 132, 2, 0), (8, 28, 1, 14, 0, 0), (11, 0, 2, 0, 0, -101), (13, 51, 0, 0, 0, 0), (14, 1, 2, 1, 0, 0), (15, 47, 3, 0, 0, 0), (44, 2, 0, 1, 0, 0), (45, 30, 3, 10, 3, 0), (48, 1, 1, 1, 0, 0), (49, 44, 549, 84, 2, 0), (52, 51, 0, 0, 0, 0), (53, 2, 0, 1, 0, 0), (54, 30, 3, 10, 3, 0), (57, 1, 1, 1, 0, 0), (58, 44, 565, 82, 2, 0), (61, 51, 0, 0, 0, 0), (62, 2, 0, 1, 0, 0), (63, 30, 3, 10, 3, 0), (66, 1, 1, 1, 0, 0), (67, 44, 581, 87, 2, 0), (70, 28, 0, 77, 0, 0), (73, 0, 1, 0, 0, 1), (74, 27, 78, 0, 0, 0), (77, 0, 1, 0, 0, 0), (78, 51, 0, 0, 0, 0), (79, 2, 0, 1, 0, 0), (80, 30, 1, 10, 1, 0), (83, 1, 1, 1, 0, 0), (84, 44, 601, 142, 2, 0), (87, 51, 0, 0, 0, 0), (88, 0, 2, 0, 0, -102), (90, 51, 0, 0, 0, 0)]
def e_in_162 : List (Nat × Instr × Nat) := [(0, .aload_n 0, 1), (1, .getfield 19, 3), (4, .iload_n 1, 1), (5, .invokevirtual 87, 3), (8, .ifCond .eq 15, 3), (11, .aload_n 0, 1), (12, .getfield 35, 3), (15, .iload_n 1, 1), (16, .iload_n 2, 1), (17, .invokevirtual 162, 3), (20, .goto 5, 3), (23, .bipush (-101), 2), (25, .ireturn, 1)]
/-- EvenWheel.inside(II)I -/
def e_pg_162 : List (Nat × e_PI) := [(0, 2, 0, 1, 0, 0), (1, 30, 1, 10, 1, 0), (4, 1, 1, 1, 0, 0), (5, 44, 249, 132, 2, 0), (8, 28, 0, 23, 0, 0), (11, 2, 0, 1, 0, 0), (12, 30, 3, 10, 3, 0), (15, 1, 1, 1, 0, 0), (16, 1, 2, 1, 0, 0), (17, 44, 613, 83, 3, 0), (20, 27, 25, 0, 0, 0), (23, 0, 2, 0, 0, -101), (25, 51, 0, 0, 0, 0)]
def e_in_163 : List (Nat × Instr × Nat) := [(0, .aload_n 0, 1), (1, .getfield 28, 3), (4, .invokevirtual 165, 3), (7, .ifCond .eq 13, 3), (10, .aload_n 0, 1), (11, .getfield 19, 3), (14, .invokevirtual 95, 3), (17, .goto 5, 3), (20, .bipush (-103), 2), (22, .ireturn, 1)]
/-- EvenWheel.step()I -/
def e_pg_163 : List (Nat × e_PI) := [(0, 2, 0, 1, 0, 0), (1, 30, 2, 10, 2, 0), (4, 44, 628, 76, 1, 0), (7, 28, 0, 20, 0, 0), (10, 2, 0, 1, 0, 0), (11, 30, 1, 10, 1, 0), (14, 44, 281, 134, 1, 0), (17, 27, 22, 0, 0, 0), (20, 0, 2, 0, 0, -103), (22, 51, 0, 0, 0, 0)]
def e_in_164 : List (Nat × Instr × Nat) := [(0, .aload_n 0, 1), (1, .getfield 28, 3), (4, .invokevirtual 168, 3), (7, .ireturn, 1)]
/-- EvenWheel.why()I -/
def e_pg_164 : List (Nat × e_PI) := [(0, 2, 0, 1, 0, 0), (1, 30, 2, 10, 2, 0), (4, 44, 644, 75, 1, 0), (7, 51, 0, 0, 0, 0)]
def e_in_165 : List (Nat × Instr × Nat) := [(0, .iload_n 1, 1), (1, .ifCond .lt 9, 3), (4, .iload_n 1, 1), (5, .bipush 60, 2), (7, .if_icmp .le 6, 3), (10, .bipush (-102), 2), (12, .ireturn, 1), (13, .iconst 0, 1), (14, .istore_n 2, 1), (15, .iload_n 2, 1), (16, .iload_n 1, 1), (17, .if_icmp .ge 19, 3), (20, .aload_n 0, 1), (21, .getfield 28, 3), (24, .invokevirtual 165, 3), (27, .ifCond .eq 9, 3), (30, .iinc 2 1, 3), (33, .goto (-18), 3), (36, .aload_n 0, 1), (37, .getfield 35, 3), (40, .invokevirtual 171, 3), (43, .iload_n 2, 1), (44, .ireturn, 1)]
/-- EvenWheel.stop(I)I -/
def e_pg_165 : List (Nat × e_PI) := [(0, 1, 1, 1, 0, 0), (1, 28, 2, 10, 0, 0), (4, 1, 1, 1, 0, 0), (5, 0, 2, 0, 0, 60), (7, 29, 5, 13, 0, 0), (10, 0, 2, 0, 0, -102), (12, 51, 0, 0, 0, 0), (13, 0, 1, 0, 0, 0), (14, 4, 2, 1, 0, 0), (15, 1, 2, 1, 0, 0), (16, 1, 1, 1, 0, 0), (17, 29, 3, 36, 0, 0), (20, 2, 0, 1, 0, 0), (21, 30, 2, 10, 2, 0), (24, 44, 628, 76, 1, 0), (27, 28, 0, 36, 0, 0), (30, 7, 2, 0, 0, 1), (33, 27, 15, 0, 0, 0), (36, 2, 0, 1, 0, 0), (37, 30, 3, 10, 3, 0), (40, 44, 661, 88, 1, 0), (43, 1, 2, 1, 0, 0), (44, 51, 0, 0, 0, 0)]
def e_in_166 : List (Nat × Instr × Nat) := [(0, .iload_n 1, 1), (1, .iload_n 2, 1), (2, .iload_n 3, 1), (3, .iload 4, 2), (5, .iload 5, 2), (7, .invokestatic 174, 3), (10, .ifCond .ne 6, 3), (13, .bipush (-102), 2), (15, .ireturn, 1), (16, .aload_n 0, 1), (17, .getfield 35, 3), (20, .invokevirtual 179, 3), (23, .ifCond .eq 24, 3), (26, .aload_n 0, 1), (27, .getfield 35, 3), (30, .iload_n 1, 1), (31, .iload_n 1, 1), (32, .iload_n 2, 1), (33, .iload_n 3, 1), (34, .iload 4, 2), (36, .invokestatic 182, 3), (39, .iload 5, 2), (41, .invokevirtual 186, 3), (44, .goto 5, 3), (47, .bipush (-104), 2), (49, .ireturn, 1)]
/-- EvenWheel.come(IIIII)I -/
def e_pg_166 : List (Nat × e_PI) := [(0, 1, 1, 1, 0, 0), (1, 1, 2, 1, 0, 0), (2, 1, 3, 1, 0, 0), (3, 1, 4, 2, 0, 0), (5, 1, 5, 2, 0, 0), (7, 44, 687, 32, 5, 0), (10, 28, 1, 16, 0, 0), (13, 0, 2, 0, 0, -102), (15, 51, 0, 0, 0, 0), (16, 2, 0, 1, 0, 0), (17, 30, 3, 10, 3, 0), (20, 44, 693, 89, 1, 0), (23, 28, 0, 47, 0, 0), (26, 2, 0, 1, 0, 0), (27, 30, 3, 10, 3, 0), (30, 1, 1, 1, 0, 0), (31, 1, 1, 1, 0, 0), (32, 1, 2, 1, 0, 0), (33, 1, 3, 1, 0, 0), (34, 1, 4, 2, 0, 0), (36, 44, 719, 34, 4, 0), (39, 1, 5, 2, 0, 0), (41, 44, 725, 90, 4, 0), (44, 27, 49, 0, 0, 0), (47, 0, 2, 0, 0, -104), (49, 51, 0, 0, 0, 0)]
def e_in_167 : List (Nat × Instr × Nat) := [(0, .aload_n 0, 1), (1, .getfield 35, 3), (4, .iload_n 1, 1), (5, .invokevirtual 190, 3), (8, .ireturn, 1)]
/-- EvenWheel.waits(I)I -/
def e_pg_167 : List (Nat × e_PI) := [(0, 2, 0, 1, 0, 0), (1, 30, 3, 10, 3, 0), (4, 1, 1, 1, 0, 0), (5, 44, 741, 91, 2, 0), (8, 51, 0, 0, 0, 0)]
def e_in_168 : List (Nat × Instr × Nat) := [(0, .aload_n 0, 1), (1, .getfield 35, 3), (4, .iload_n 1, 1), (5, .invokevirtual 190, 3), (8, .istore_n 2, 1), (9, .iload_n 2, 1), (10, .iconst (-1), 1), (11, .if_icmp .ne 6, 3), (14, .bipush (-101), 2), (16, .ireturn, 1), (17, .aload_n 0, 1), (18, .getfield 35, 3), (21, .iload_n 2, 1), (22, .invokevirtual 193, 3), (25, .ifCond .eq 7, 3), (28, .iconst 1, 1), (29, .goto 4, 3), (32, .iconst 0, 1), (33, .ireturn, 1)]
/-- EvenWheel.may(I)I -/
def e_pg_168 : List (Nat × e_PI) := [(0, 2, 0, 1, 0, 0), (1, 30, 3, 10, 3, 0), (4, 1, 1, 1, 0, 0), (5, 44, 741, 91, 2, 0), (8, 4, 2, 1, 0, 0), (9, 1, 2, 1, 0, 0), (10, 0, 1, 0, 0, -1), (11, 29, 1, 17, 0, 0), (14, 0, 2, 0, 0, -101), (16, 51, 0, 0, 0, 0), (17, 2, 0, 1, 0, 0), (18, 30, 3, 10, 3, 0), (21, 1, 2, 1, 0, 0), (22, 44, 757, 92, 2, 0), (25, 28, 0, 32, 0, 0), (28, 0, 1, 0, 0, 1), (29, 27, 33, 0, 0, 0), (32, 0, 1, 0, 0, 0), (33, 51, 0, 0, 0, 0)]
def e_in_169 : List (Nat × Instr × Nat) := [(0, .aload_n 0, 1), (1, .getfield 35, 3), (4, .invokevirtual 196, 3), (7, .ireturn, 1)]
/-- EvenWheel.next()I -/
def e_pg_169 : List (Nat × e_PI) := [(0, 2, 0, 1, 0, 0), (1, 30, 3, 10, 3, 0), (4, 44, 773, 94, 1, 0), (7, 51, 0, 0, 0, 0)]
def e_in_170 : List (Nat × Instr × Nat) := [(0, .iconst 0, 1), (1, .istore_n 1, 1), (2, .iload_n 1, 1), (3, .sipush 200, 3), (6, .if_icmp .ge 20, 3), (9, .aload_n 0, 1), (10, .getfield 35, 3), (13, .invokevirtual 196, 3), (16, .iconst (-1), 1), (17, .if_icmp .eq 9, 3), (20, .iinc 1 1, 3), (23, .goto (-21), 3), (26, .iload_n 1, 1), (27, .ireturn, 1)]
/-- EvenWheel.fill()I -/
def e_pg_170 : List (Nat × e_PI) := [(0, 0, 1, 0, 0, 0), (1, 4, 1, 1, 0, 0), (2, 1, 1, 1, 0, 0), (3, 0, 3, 0, 0, 200), (6, 29, 3, 26, 0, 0), (9, 2, 0, 1, 0, 0), (10, 30, 3, 10, 3, 0), (13, 44, 773, 94, 1, 0), (16, 0, 1, 0, 0, -1), (17, 29, 0, 26, 0, 0), (20, 7, 1, 0, 0, 1), (23, 27, 2, 0, 0, 0), (26, 1, 1, 1, 0, 0), (27, 51, 0, 0, 0, 0)]
def e_in_171 : List (Nat × Instr × Nat) := [(0, .aload_n 0, 1), (1, .getfield 35, 3), (4, .iload_n 1, 1), (5, .invokevirtual 190, 3), (8, .iconst (-1), 1), (9, .if_icmp .ne 8, 3), (12, .bipush (-101), 2), (14, .goto 11, 3), (17, .aload_n 0, 1), (18, .getfield 35, 3), (21, .iload_n 1, 1), (22, .invokevirtual 199, 3), (25, .ireturn, 1)]
/-- EvenWheel.tire(I)I -/
def e_pg_171 : List (Nat × e_PI) := [(0, 2, 0, 1, 0, 0), (1, 30, 3, 10, 3, 0), (4, 1, 1, 1, 0, 0), (5, 44, 741, 91, 2, 0), (8, 0, 1, 0, 0, -1), (9, 29, 1, 17, 0, 0), (12, 0, 2, 0, 0, -101), (14, 27, 25, 0, 0, 0), (17, 2, 0, 1, 0, 0), (18, 30, 3, 10, 3, 0), (21, 1, 1, 1, 0, 0), (22, 44, 789, 95, 2, 0), (25, 51, 0, 0, 0, 0)]
def e_in_172 : List (Nat × Instr × Nat) := [(0, .aload_n 0, 1), (1, .getfield 35, 3), (4, .iload_n 1, 1), (5, .invokevirtual 202, 3), (8, .ifCond .ne 6, 3), (11, .bipush (-101), 2), (13, .ireturn, 1), (14, .aload_n 0, 1), (15, .getfield 35, 3), (18, .iload_n 1, 1), (19, .invokevirtual 205, 3), (22, .ifCond .eq 14, 3), (25, .aload_n 0, 1), (26, .getfield 35, 3), (29, .iload_n 1, 1), (30, .invokevirtual 208, 3), (33, .goto 5, 3), (36, .bipush (-103), 2), (38, .ireturn, 1)]
/-- EvenWheel.leave(I)I -/
def e_pg_172 : List (Nat × e_PI) := [(0, 2, 0, 1, 0, 0), (1, 30, 3, 10, 3, 0), (4, 1, 1, 1, 0, 0), (5, 44, 805, 96, 2, 0), (8, 28, 1, 14, 0, 0), (11, 0, 2, 0, 0, -101), (13, 51, 0, 0, 0, 0), (14, 2, 0, 1, 0, 0), (15, 30, 3, 10, 3, 0), (18, 1, 1, 1, 0, 0), (19, 44, 821, 97, 2, 0), (22, 28, 0, 36, 0, 0), (25, 2, 0, 1, 0, 0), (26, 30, 3, 10, 3, 0), (29, 1, 1, 1, 0, 0), (30, 44, 837, 98, 2, 0), (33, 27, 38, 0, 0, 0), (36, 0, 2, 0, 0, -103), (38, 51, 0, 0, 0, 0)]
def e_in_173 : List (Nat × Instr × Nat) := [(0, .aload_n 0, 1), (1, .getfield 35, 3), (4, .iload_n 1, 1), (5, .iload_n 2, 1), (6, .invokevirtual 211, 3), (9, .ireturn, 1)]
/-- EvenWheel.party(II)I -/
def e_pg_173 : List (Nat × e_PI) := [(0, 2, 0, 1, 0, 0), (1, 30, 3, 10, 3, 0), (4, 1, 1, 1, 0, 0), (5, 1, 2, 1, 0, 0), (6, 44, 853, 81, 3, 0), (9, 51, 0, 0, 0, 0)]
def e_in_174 : List (Nat × Instr × Nat) := [(0, .iload_n 1, 1), (1, .ifCond .lt 8, 3), (4, .iload_n 1, 1), (5, .iconst 1, 1), (6, .if_icmp .le 6, 3), (9, .bipush (-102), 2), (11, .ireturn, 1), (12, .aload_n 0, 1), (13, .getfield 44, 3), (16, .invokevirtual 214, 3), (19, .ifCond .ne 6, 3), (22, .bipush (-103), 2), (24, .ireturn, 1), (25, .aload_n 0, 1), (26, .getfield 44, 3), (29, .invokevirtual 217, 3), (32, .ifCond .ne 5, 3), (35, .iconst (-1), 1), (36, .ireturn, 1), (37, .iload_n 1, 1), (38, .ifCond .ne 13, 3), (41, .aload_n 0, 1), (42, .getfield 44, 3), (45, .invokevirtual 220, 3), (48, .goto 10, 3), (51, .aload_n 0, 1), (52, .getfield 44, 3), (55, .invokevirtual 223, 3), (58, .ireturn, 1)]
/-- EvenWheel.order(I)I -/
def e_pg_174 : List (Nat × e_PI) := [(0, 1, 1, 1, 0, 0), (1, 28, 2, 9, 0, 0), (4, 1, 1, 1, 0, 0), (5, 0, 1, 0, 0, 1), (6, 29, 5, 12, 0, 0), (9, 0, 2, 0, 0, -102), (11, 51, 0, 0, 0, 0), (12, 2, 0, 1, 0, 0), (13, 30, 4, 10, 4, 0), (16, 44, 864, 8, 1, 0), (19, 28, 1, 25, 0, 0), (22, 0, 2, 0, 0, -103), (24, 51, 0, 0, 0, 0), (25, 2, 0, 1, 0, 0), (26, 30, 4, 10, 4, 0), (29, 44, 880, 1, 1, 0), (32, 28, 1, 37, 0, 0), (35, 0, 1, 0, 0, -1), (36, 51, 0, 0, 0, 0), (37, 1, 1, 1, 0, 0), (38, 28, 1, 51, 0, 0), (41, 2, 0, 1, 0, 0), (42, 30, 4, 10, 4, 0), (45, 44, 896, 3, 1, 0), (48, 27, 58, 0, 0, 0), (51, 2, 0, 1, 0, 0), (52, 30, 4, 10, 4, 0), (55, 44, 912, 4, 1, 0), (58, 51, 0, 0, 0, 0)]
def e_in_175 : List (Nat × Instr × Nat) := [(0, .aload_n 0, 1), (1, .getfield 44, 3), (4, .invokevirtual 214, 3), (7, .ifCond .eq 14, 3), (10, .aload_n 0, 1), (11, .getfield 44, 3), (14, .iload_n 1, 1), (15, .invokevirtual 226, 3), (18, .goto 5, 3), (21, .bipush (-103), 2), (23, .ireturn, 1)]
/-- EvenWheel.ordered(I)I -/
def e_pg_175 : List (Nat × e_PI) := [(0, 2, 0, 1, 0, 0), (1, 30, 4, 10, 4, 0), (4, 44, 864, 8, 1, 0), (7, 28, 0, 21, 0, 0), (10, 2, 0, 1, 0, 0), (11, 30, 4, 10, 4, 0), (14, 1, 1, 1, 0, 0), (15, 44, 928, 2, 2, 0), (18, 27, 23, 0, 0, 0), (21, 0, 2, 0, 0, -103), (23, 51, 0, 0, 0, 0)]
def e_in_176 : List (Nat × Instr × Nat) := [(0, .aload_n 0, 1), (1, .getfield 44, 3), (4, .invokevirtual 229, 3), (7, .ifCond .ne 6, 3), (10, .bipush (-103), 2), (12, .ireturn, 1), (13, .aload_n 0, 1), (14, .getfield 44, 3), (17, .iload_n 1, 1), (18, .invokevirtual 232, 3), (21, .ifCond .eq 13, 3), (24, .aload_n 0, 1), (25, .getfield 44, 3), (28, .invokevirtual 235, 3), (31, .goto 5, 3), (34, .bipush (-102), 2), (36, .ireturn, 1)]
/-- EvenWheel.cost(I)I -/
def e_pg_176 : List (Nat × e_PI) := [(0, 2, 0, 1, 0, 0), (1, 30, 4, 10, 4, 0), (4, 44, 944, 5, 1, 0), (7, 28, 1, 13, 0, 0), (10, 0, 2, 0, 0, -103), (12, 51, 0, 0, 0, 0), (13, 2, 0, 1, 0, 0), (14, 30, 4, 10, 4, 0), (17, 1, 1, 1, 0, 0), (18, 44, 960, 16, 2, 0), (21, 28, 0, 34, 0, 0), (24, 2, 0, 1, 0, 0), (25, 30, 4, 10, 4, 0), (28, 44, 976, 17, 1, 0), (31, 27, 36, 0, 0, 0), (34, 0, 2, 0, 0, -102), (36, 51, 0, 0, 0, 0)]
def e_in_177 : List (Nat × Instr × Nat) := [(0, .aload_n 0, 1), (1, .getfield 53, 3), (4, .invokevirtual 238, 3), (7, .ireturn, 1)]
/-- EvenWheel.roll()I -/
def e_pg_177 : List (Nat × e_PI) := [(0, 2, 0, 1, 0, 0), (1, 30, 5, 10, 5, 0), (4, 44, 998, 102, 1, 0), (7, 51, 0, 0, 0, 0)]
def e_in_178 : List (Nat × Instr × Nat) := [(0, .aload_n 0, 1), (1, .getfield 53, 3), (4, .invokevirtual 241, 3), (7, .ireturn, 1)]
/-- EvenWheel.letOut()I -/
def e_pg_178 : List (Nat × e_PI) := [(0, 2, 0, 1, 0, 0), (1, 30, 5, 10, 5, 0), (4, 44, 1014, 103, 1, 0), (7, 51, 0, 0, 0, 0)]
def e_in_179 : List (Nat × Instr × Nat) := [(0, .aload_n 0, 1), (1, .getfield 53, 3), (4, .invokevirtual 244, 3), (7, .ireturn, 1)]
/-- EvenWheel.stranded()I -/
def e_pg_179 : List (Nat × e_PI) := [(0, 2, 0, 1, 0, 0), (1, 30, 5, 10, 5, 0), (4, 44, 1030, 104, 1, 0), (7, 51, 0, 0, 0, 0)]
def e_in_180 : List (Nat × Instr × Nat) := [(0, .iload_n 1, 1), (1, .iload_n 2, 1), (2, .invokestatic 247, 3), (5, .ifCond .eq 15, 3), (8, .aload_n 0, 1), (9, .getfield 60, 3), (12, .iload_n 1, 1), (13, .iload_n 2, 1), (14, .invokevirtual 248, 3), (17, .goto 5, 3), (20, .bipush (-102), 2), (22, .ireturn, 1)]
/-- EvenWheel.note(II)I -/
def e_pg_180 : List (Nat × e_PI) := [(0, 1, 1, 1, 0, 0), (1, 1, 2, 1, 0, 0), (2, 44, 1055, 19, 2, 0), (5, 28, 0, 20, 0, 0), (8, 2, 0, 1, 0, 0), (9, 30, 6, 10, 6, 0), (12, 1, 1, 1, 0, 0), (13, 1, 2, 1, 0, 0), (14, 44, 1057, 21, 3, 0), (17, 27, 22, 0, 0, 0), (20, 0, 2, 0, 0, -102), (22, 51, 0, 0, 0, 0)]
def e_in_181 : List (Nat × Instr × Nat) := [(0, .aload_n 0, 1), (1, .getfield 60, 3), (4, .iload_n 1, 1), (5, .invokevirtual 251, 3), (8, .ifCond .eq 12, 3), (11, .iload_n 2, 1), (12, .ifCond .lt 8, 3), (15, .iload_n 2, 1), (16, .iconst 1, 1), (17, .if_icmp .le 6, 3), (20, .bipush (-102), 2), (22, .ireturn, 1), (23, .aload_n 0, 1), (24, .getfield 60, 3), (27, .iload_n 1, 1), (28, .invokevirtual 254, 3), (31, .ifCond .ne 5, 3), (34, .iconst (-1), 1), (35, .ireturn, 1), (36, .iload_n 2, 1), (37, .ifCond .ne 13, 3), (40, .aload_n 0, 1), (41, .getfield 60, 3), (44, .invokevirtual 257, 3), (47, .goto 10, 3), (50, .aload_n 0, 1), (51, .getfield 60, 3), (54, .invokevirtual 260, 3), (57, .ireturn, 1)]
/-- EvenWheel.up(II)I -/
def e_pg_181 : List (Nat × e_PI) := [(0, 2, 0, 1, 0, 0), (1, 30, 6, 10, 6, 0), (4, 1, 1, 1, 0, 0), (5, 44, 1073, 23, 2, 0), (8, 28, 0, 20, 0, 0), (11, 1, 2, 1, 0, 0), (12, 28, 2, 20, 0, 0), (15, 1, 2, 1, 0, 0), (16, 0, 1, 0, 0, 1), (17, 29, 5, 23, 0, 0), (20, 0, 2, 0, 0, -102), (22, 51, 0, 0, 0, 0), (23, 2, 0, 1, 0, 0), (24, 30, 6, 10, 6, 0), (27, 1, 1, 1, 0, 0), (28, 44, 1089, 26, 2, 0), (31, 28, 1, 36, 0, 0), (34, 0, 1, 0, 0, -1), (35, 51, 0, 0, 0, 0), (36, 1, 2, 1, 0, 0), (37, 28, 1, 50, 0, 0), (40, 2, 0, 1, 0, 0), (41, 30, 6, 10, 6, 0), (44, 44, 1105, 24, 1, 0), (47, 27, 57, 0, 0, 0), (50, 2, 0, 1, 0, 0), (51, 30, 6, 10, 6, 0), (54, 44, 1121, 25, 1, 0), (57, 51, 0, 0, 0, 0)]
def e_in_182 : List (Nat × Instr × Nat) := [(0, .aload_n 0, 1), (1, .getfield 60, 3), (4, .invokevirtual 263, 3), (7, .ireturn, 1)]
/-- EvenWheel.begins()I -/
def e_pg_182 : List (Nat × e_PI) := [(0, 2, 0, 1, 0, 0), (1, 30, 6, 10, 6, 0), (4, 44, 1137, 27, 1, 0), (7, 51, 0, 0, 0, 0)]
def e_in_183 : List (Nat × Instr × Nat) := [(0, .aload_n 0, 1), (1, .getfield 60, 3), (4, .invokevirtual 83, 3), (7, .ireturn, 1)]
/-- EvenWheel.tear()I -/
def e_pg_183 : List (Nat × e_PI) := [(0, 2, 0, 1, 0, 0), (1, 30, 6, 10, 6, 0), (4, 44, 209, 20, 1, 0), (7, 51, 0, 0, 0, 0)]
def e_in_184 : List (Nat × Instr × Nat) := [(0, .aload_n 0, 1), (1, .getfield 19, 3), (4, .iload_n 1, 1), (5, .invokevirtual 87, 3), (8, .ifCond .ne 6, 3), (11, .bipush (-101), 2), (13, .ireturn, 1), (14, .aload_n 0, 1), (15, .getfield 67, 3), (18, .iload_n 1, 1), (19, .iload_n 2, 1), (20, .iload_n 3, 1), (21, .invokevirtual 266, 3), (24, .ifCond .eq 7, 3), (27, .iconst 1, 1), (28, .goto 5, 3), (31, .bipush (-102), 2), (33, .ireturn, 1)]
/-- EvenWheel.guess(III)I -/
def e_pg_184 : List (Nat × e_PI) := [(0, 2, 0, 1, 0, 0), (1, 30, 1, 10, 1, 0), (4, 1, 1, 1, 0, 0), (5, 44, 249, 132, 2, 0), (8, 28, 1, 14, 0, 0), (11, 0, 2, 0, 0, -101), (13, 51, 0, 0, 0, 0), (14, 2, 0, 1, 0, 0), (15, 30, 7, 10, 7, 0), (18, 1, 1, 1, 0, 0), (19, 1, 2, 1, 0, 0), (20, 1, 3, 1, 0, 0), (21, 44, 1155, 53, 4, 0), (24, 28, 0, 31, 0, 0), (27, 0, 1, 0, 0, 1), (28, 27, 33, 0, 0, 0), (31, 0, 2, 0, 0, -102), (33, 51, 0, 0, 0, 0)]
def e_in_185 : List (Nat × Instr × Nat) := [(0, .aload_n 0, 1), (1, .getfield 19, 3), (4, .iload_n 1, 1), (5, .invokevirtual 87, 3), (8, .ifCond .ne 6, 3), (11, .bipush (-101), 2), (13, .ireturn, 1), (14, .iload_n 2, 1), (15, .iload_n 3, 1), (16, .invokestatic 270, 3), (19, .ifCond .eq 16, 3), (22, .aload_n 0, 1), (23, .getfield 67, 3), (26, .iload_n 1, 1), (27, .iload_n 2, 1), (28, .iload_n 3, 1), (29, .invokevirtual 271, 3), (32, .goto 5, 3), (35, .bipush (-102), 2), (37, .ireturn, 1)]
/-- EvenWheel.read(III)I -/
def e_pg_185 : List (Nat × e_PI) := [(0, 2, 0, 1, 0, 0), (1, 30, 1, 10, 1, 0), (4, 1, 1, 1, 0, 0), (5, 44, 249, 132, 2, 0), (8, 28, 1, 14, 0, 0), (11, 0, 2, 0, 0, -101), (13, 51, 0, 0, 0, 0), (14, 1, 2, 1, 0, 0), (15, 1, 3, 1, 0, 0), (16, 44, 1183, 54, 2, 0), (19, 28, 0, 35, 0, 0), (22, 2, 0, 1, 0, 0), (23, 30, 7, 10, 7, 0), (26, 1, 1, 1, 0, 0), (27, 1, 2, 1, 0, 0), (28, 1, 3, 1, 0, 0), (29, 44, 1187, 55, 4, 0), (32, 27, 37, 0, 0, 0), (35, 0, 2, 0, 0, -102), (37, 51, 0, 0, 0, 0)]
def e_in_186 : List (Nat × Instr × Nat) := [(0, .aload_n 0, 1), (1, .getfield 67, 3), (4, .invokevirtual 273, 3), (7, .ireturn, 1)]
/-- EvenWheel.forget()I -/
def e_pg_186 : List (Nat × e_PI) := [(0, 2, 0, 1, 0, 0), (1, 30, 7, 10, 7, 0), (4, 44, 1203, 51, 1, 0), (7, 51, 0, 0, 0, 0)]
def e_in_187 : List (Nat × Instr × Nat) := [(0, .aload_n 0, 1), (1, .getfield 19, 3), (4, .iload_n 1, 1), (5, .invokevirtual 87, 3), (8, .ifCond .ne 6, 3), (11, .bipush (-101), 2), (13, .ireturn, 1), (14, .iload_n 2, 1), (15, .ifCond .lt 8, 3), (18, .iload_n 2, 1), (19, .iconst 1, 1), (20, .if_icmp .le 6, 3), (23, .bipush (-102), 2), (25, .ireturn, 1), (26, .aload_n 0, 1), (27, .getfield 67, 3), (30, .invokevirtual 276, 3), (33, .iconst (-1), 1), (34, .if_icmp .eq 5, 3), (37, .iconst (-1), 1), (38, .ireturn, 1), (39, .iload_n 2, 1), (40, .ifCond .ne 14, 3), (43, .aload_n 0, 1), (44, .getfield 67, 3), (47, .iload_n 1, 1), (48, .invokevirtual 279, 3), (51, .goto 11, 3), (54, .aload_n 0, 1), (55, .getfield 67, 3), (58, .iload_n 1, 1), (59, .invokevirtual 282, 3), (62, .ireturn, 1)]
/-- EvenWheel.fit(II)I -/
def e_pg_187 : List (Nat × e_PI) := [(0, 2, 0, 1, 0, 0), (1, 30, 1, 10, 1, 0), (4, 1, 1, 1, 0, 0), (5, 44, 249, 132, 2, 0), (8, 28, 1, 14, 0, 0), (11, 0, 2, 0, 0, -101), (13, 51, 0, 0, 0, 0), (14, 1, 2, 1, 0, 0), (15, 28, 2, 23, 0, 0), (18, 1, 2, 1, 0, 0), (19, 0, 1, 0, 0, 1), (20, 29, 5, 26, 0, 0), (23, 0, 2, 0, 0, -102), (25, 51, 0, 0, 0, 0), (26, 2, 0, 1, 0, 0), (27, 30, 7, 10, 7, 0), (30, 44, 1219, 58, 1, 0), (33, 0, 1, 0, 0, -1), (34, 29, 0, 39, 0, 0), (37, 0, 1, 0, 0, -1), (38, 51, 0, 0, 0, 0), (39, 1, 2, 1, 0, 0), (40, 28, 1, 54, 0, 0), (43, 2, 0, 1, 0, 0), (44, 30, 7, 10, 7, 0), (47, 1, 1, 1, 0, 0), (48, 44, 1235, 56, 2, 0), (51, 27, 62, 0, 0, 0), (54, 2, 0, 1, 0, 0), (55, 30, 7, 10, 7, 0), (58, 1, 1, 1, 0, 0), (59, 44, 1251, 57, 2, 0), (62, 51, 0, 0, 0, 0)]
def e_in_188 : List (Nat × Instr × Nat) := [(0, .aload_n 0, 1), (1, .getfield 67, 3), (4, .invokevirtual 276, 3), (7, .ireturn, 1)]
/-- EvenWheel.breaks()I -/
def e_pg_188 : List (Nat × e_PI) := [(0, 2, 0, 1, 0, 0), (1, 30, 7, 10, 7, 0), (4, 44, 1219, 58, 1, 0), (7, 51, 0, 0, 0, 0)]
def e_in_189 : List (Nat × Instr × Nat) := [(0, .aload_n 0, 1), (1, .getfield 67, 3), (4, .invokevirtual 276, 3), (7, .iconst (-1), 1), (8, .if_icmp .ne 13, 3), (11, .aload_n 0, 1), (12, .getfield 67, 3), (15, .invokevirtual 285, 3), (18, .goto 4, 3), (21, .iconst (-1), 1), (22, .ireturn, 1)]
/-- EvenWheel.agree()I -/
def e_pg_189 : List (Nat × e_PI) := [(0, 2, 0, 1, 0, 0), (1, 30, 7, 10, 7, 0), (4, 44, 1219, 58, 1, 0), (7, 0, 1, 0, 0, -1), (8, 29, 1, 21, 0, 0), (11, 2, 0, 1, 0, 0), (12, 30, 7, 10, 7, 0), (15, 44, 1267, 65, 1, 0), (18, 27, 22, 0, 0, 0), (21, 0, 1, 0, 0, -1), (22, 51, 0, 0, 0, 0)]
def e_in_190 : List (Nat × Instr × Nat) := [(0, .ldc2_w 288, 3), (3, .aload_n 0, 1), (4, .getfield 19, 3), (7, .invokevirtual 290, 3), (10, .i2l, 1), (11, .invokestatic 293, 3), (14, .lstore_n 1, 1), (15, .lload_n 1, 1), (16, .aload_n 0, 1), (17, .iconst 0, 1), (18, .invokevirtual 297, 3), (21, .i2l, 1), (22, .invokestatic 293, 3), (25, .lstore_n 1, 1), (26, .lload_n 1, 1), (27, .aload_n 0, 1), (28, .iconst 1, 1), (29, .invokevirtual 297, 3), (32, .i2l, 1), (33, .invokestatic 293, 3), (36, .lstore_n 1, 1), (37, .lload_n 1, 1), (38, .aload_n 0, 1), (39, .bipush 6, 2), (41, .invokevirtual 297, 3), (44, .i2l, 1), (45, .invokestatic 293, 3), (48, .lstore_n 1, 1), (49, .lload_n 1, 1), (50, .aload_n 0, 1), (51, .bipush 7, 2), (53, .invokevirtual 297, 3), (56, .i2l, 1), (57, .invokestatic 293, 3), (60, .lstore_n 1, 1), (61, .lload_n 1, 1), (62, .aload_n 0, 1), (63, .bipush 8, 2), (65, .invokevirtual 297, 3), (68, .i2l, 1), (69, .invokestatic 293, 3), (72, .lstore_n 1, 1), (73, .aload_n 0, 1), (74, .getfield 10, 3), (77, .lload_n 1, 1), (78, .invokevirtual 300, 3), (81, .lstore_n 1, 1), (82, .aload_n 0, 1), (83, .getfield 35, 3), (86, .lload_n 1, 1), (87, .invokevirtual 304, 3), (90, .lstore_n 1, 1), (91, .aload_n 0, 1), (92, .getfield 60, 3), (95, .lload_n 1, 1), (96, .invokevirtual 305, 3), (99, .lstore_n 1, 1), (100, .aload_n 0, 1), (101, .getfield 67, 3), (104, .lload_n 1, 1), (105, .invokevirtual 306, 3), (108, .lreturn, 1)]
/-- EvenWheel.digest()J -/
def e_pg_190 : List (Nat × e_PI) := [(0, 23, 3, 8, 0, 211), (3, 2, 0, 1, 0, 0), (4, 30, 1, 10, 1, 0), (7, 44, 1289, 133, 1, 0), (10, 19, 0, 0, 0, 0), (11, 44, 1311, 191, 2, 0), (14, 6, 1, 1, 0, 0), (15, 3, 1, 1, 0, 0), (16, 2, 0, 1, 0, 0), (17, 0, 1, 0, 0, 0), (18, 44, 1322, 154, 2, 0), (21, 19, 0, 0, 0, 0), (22, 44, 1311, 191, 2, 0), (25, 6, 1, 1, 0, 0), (26, 3, 1, 1, 0, 0), (27, 2, 0, 1, 0, 0), (28, 0, 1, 0, 0, 1), (29, 44, 1322, 154, 2, 0), (32, 19, 0, 0, 0, 0), (33, 44, 1311, 191, 2, 0), (36, 6, 1, 1, 0, 0), (37, 3, 1, 1, 0, 0), (38, 2, 0, 1, 0, 0), (39, 0, 2, 0, 0, 6), (41, 44, 1322, 154, 2, 0), (44, 19, 0, 0, 0, 0), (45, 44, 1311, 191, 2, 0), (48, 6, 1, 1, 0, 0), (49, 3, 1, 1, 0, 0), (50, 2, 0, 1, 0, 0), (51, 0, 2, 0, 0, 7), (53, 44, 1322, 154, 2, 0), (56, 19, 0, 0, 0, 0), (57, 44, 1311, 191, 2, 0), (60, 6, 1, 1, 0, 0), (61, 3, 1, 1, 0, 0), (62, 2, 0, 1, 0, 0), (63, 0, 2, 0, 0, 8), (65, 44, 1322, 154, 2, 0), (68, 19, 0, 0, 0, 0), (69, 44, 1311, 191, 2, 0), (72, 6, 1, 1, 0, 0), (73, 2, 0, 1, 0, 0), (74, 30, 0, 10, 0, 0), (77, 3, 1, 1, 0, 0), (78, 44, 1336, 127, 2, 0), (81, 6, 1, 1, 0, 0), (82, 2, 0, 1, 0, 0), (83, 30, 3, 10, 3, 0), (86, 3, 1, 1, 0, 0), (87, 44, 1349, 100, 2, 0), (90, 6, 1, 1, 0, 0), (91, 2, 0, 1, 0, 0), (92, 30, 6, 10, 6, 0), (95, 3, 1, 1, 0, 0), (96, 44, 1361, 30, 2, 0), (99, 6, 1, 1, 0, 0), (100, 2, 0, 1, 0, 0), (101, 30, 7, 10, 7, 0), (104, 3, 1, 1, 0, 0), (105, 44, 1379, 66, 2, 0), (108, 53, 0, 0, 0, 0)]
def e_in_191 : List (Nat × Instr × Nat) := [(0, .ldc2_w 307, 3), (3, .lload_n 0, 1), (4, .lmul, 1), (5, .lload_n 2, 1), (6, .ladd, 1), (7, .lreturn, 1)]
/-- EvenWheel.mix(JJ)J -/
def e_pg_191 : List (Nat × e_PI) := [(0, 23, 3, 9, 0, 31), (3, 3, 0, 1, 0, 0), (4, 21, 0, 0, 0, 0), (5, 3, 2, 1, 0, 0), (6, 20, 0, 0, 0, 0), (7, 53, 0, 0, 0, 0)]
def e_in_192 : List (Nat × Instr × Nat) := [(0, .aload_n 0, 1), (1, .invokespecial 1, 3), (4, .aload_n 0, 1), (5, .sipush 180, 3), (8, .newarray .int, 2), (10, .putfield 7, 3), (13, .aload_n 0, 1), (14, .bipush 30, 2), (16, .newarray .int, 2), (18, .putfield 13, 3), (21, .aload_n 0, 1), (22, .bipush 30, 2), (24, .newarray .int, 2), (26, .putfield 16, 3), (29, .aload_n 0, 1), (30, .sipush 200, 3), (33, .newarray .int, 2), (35, .putfield 19, 3), (38, .aload_n 0, 1), (39, .sipush 200, 3), (42, .newarray .int, 2), (44, .putfield 22, 3), (47, .aload_n 0, 1), (48, .sipush 200, 3), (51, .newarray .int, 2), (53, .putfield 25, 3), (56, .aload_n 0, 1), (57, .sipush 200, 3), (60, .newarray .int, 2), (62, .putfield 28, 3), (65, .aload_n 0, 1), (66, .sipush 200, 3), (69, .newarray .boolean, 2), (71, .putfield 31, 3), (74, .aload_n 0, 1), (75, .sipush 200, 3), (78, .newarray .int, 2), (80, .putfield 35, 3), (83, .aload_n 0, 1), (84, .bipush 30, 2), (86, .newarray .int, 2), (88, .putfield 38, 3), (91, .aload_n 0, 1), (92, .bipush 30, 2), (94, .newarray .int, 2), (96, .putfield 41, 3), (99, .aload_n 0, 1), (100, .bipush 30, 2), (102, .newarray .int, 2), (104, .putfield 44, 3), (107, .aload_n 0, 1), (108, .bipush 6, 2), (110, .newarray .int, 2), (112, .putfield 47, 3), (115, .aload_n 0, 1), (116, .bipush 6, 2), (118, .newarray .int, 2), (120, .putfield 50, 3), (123, .aload_n 0, 1), (124, .bipush 40, 2), (126, .newarray .int, 2), (128, .putfield 53, 3), (131, .aload_n 0, 1), (132, .bipush 40, 2), (134, .newarray .int, 2), (136, .putfield 56, 3), (139, .aload_n 0, 1), (140, .sipush 181, 3), (143, .newarray .boolean, 2), (145, .putfield 59, 3), (148, .aload_n 0, 1), (149, .sipush 181, 3), (152, .newarray .boolean, 2), (154, .putfield 62, 3), (157, .aload_n 0, 1), (158, .bipush 30, 2), (160, .newarray .int, 2), (162, .putfield 65, 3), (165, .aload_n 0, 1), (166, .bipush 30, 2), (168, .newarray .int, 2), (170, .putfield 68, 3), (173, .aload_n 0, 1), (174, .bipush 12, 2), (176, .newarray .int, 2), (178, .putfield 71, 3), (181, .aload_n 0, 1), (182, .bipush 12, 2), (184, .newarray .int, 2), (186, .putfield 74, 3), (189, .aload_n 0, 1), (190, .bipush 12, 2), (192, .newarray .int, 2), (194, .putfield 77, 3), (197, .aload_n 0, 1), (198, .bipush 30, 2), (200, .newarray .int, 2), (202, .putfield 80, 3), (205, .aload_n 0, 1), (206, .bipush 30, 2), (208, .newarray .int, 2), (210, .putfield 83, 3), (213, .aload_n 0, 1), (214, .ldc 86, 2), (216, .putfield 87, 3), (219, .aload_n 0, 1), (220, .sipush 3000, 3), (223, .putfield 91, 3), (226, .aload_n 0, 1), (227, .bipush 20, 2), (229, .putfield 94, 3), (232, .aload_n 0, 1), (233, .iconst 5, 1), (234, .putfield 97, 3), (237, .aload_n 0, 1), (238, .iconst 1, 1), (239, .putfield 100, 3), (242, .aload_n 0, 1), (243, .bipush 6, 2), (245, .invokevirtual 104, 3), (248, .return_, 1)]
/-- EvenWheelModel.init()V -/
def e_pg_192 : List (Nat × e_PI) := [(0, 2, 0, 1, 0, 0), (1, 46, 349, 0, 0, 0), (4, 2, 0, 1, 0, 0), (5, 0, 3, 0, 0, 180), (8, 40, 0, 0, 0, 0), (10, 31, 65, 11, 9, 2), (13, 2, 0, 1, 0, 0), (14, 0, 2, 0, 0, 30), (16, 40, 0, 0, 0, 0), (18, 31, 66, 11, 10, 2), (21, 2, 0, 1, 0, 0), (22, 0, 2, 0, 0, 30), (24, 40, 0, 0, 0, 0), (26, 31, 67, 11, 11, 2), (29, 2, 0, 1, 0, 0), (30, 0, 3, 0, 0, 200), (33, 40, 0, 0, 0, 0), (35, 31, 68, 11, 13, 2), (38, 2, 0, 1, 0, 0), (39, 0, 3, 0, 0, 200), (42, 40, 0, 0, 0, 0), (44, 31, 69, 11, 14, 2), (47, 2, 0, 1, 0, 0), (48, 0, 3, 0, 0, 200), (51, 40, 0, 0, 0, 0), (53, 31, 70, 11, 15, 2), (56, 2, 0, 1, 0, 0), (57, 0, 3, 0, 0, 200), (60, 40, 0, 0, 0, 0), (62, 31, 71, 11, 16, 2), (65, 2, 0, 1, 0, 0), (66, 0, 3, 0, 0, 200), (69, 40, 1, 0, 0, 0), (71, 31, 72, 11, 17, 2), (74, 2, 0, 1, 0, 0), (75, 0, 3, 0, 0, 200), (78, 40, 0, 0, 0, 0), (80, 31, 73, 11, 18, 2), (83, 2, 0, 1, 0, 0), (84, 0, 2, 0, 0, 30), (86, 40, 0, 0, 0, 0), (88, 31, 74, 11, 20, 2), (91, 2, 0, 1, 0, 0), (92, 0, 2, 0, 0, 30), (94, 40, 0, 0, 0, 0), (96, 31, 75, 11, 22, 2), (99, 2, 0, 1, 0, 0), (100, 0, 2, 0, 0, 30), (102, 40, 0, 0, 0, 0), (104, 31, 76, 11, 23, 2), (107, 2, 0, 1, 0, 0), (108, 0, 2, 0, 0, 6), (110, 40, 0, 0, 0, 0), (112, 31, 77, 11, 25, 2), (115, 2, 0, 1, 0, 0), (116, 0, 2, 0, 0, 6), (118, 40, 0, 0, 0, 0), (120, 31, 78, 11, 26, 2), (123, 2, 0, 1, 0, 0), (124, 0, 2, 0, 0, 40), (126, 40, 0, 0, 0, 0), (128, 31, 79, 11, 32, 2), (131, 2, 0, 1, 0, 0), (132, 0, 2, 0, 0, 40), (134, 40, 0, 0, 0, 0), (136, 31, 80, 11, 33, 2), (139, 2, 0, 1, 0, 0), (140, 0, 3, 0, 0, 181), (143, 40, 1, 0, 0, 0), (145, 31, 81, 11, 34, 2), (148, 2, 0, 1, 0, 0), (149, 0, 3, 0, 0, 181), (152, 40, 1, 0, 0, 0), (154, 31, 82, 11, 35, 2), (157, 2, 0, 1, 0, 0), (158, 0, 2, 0, 0, 30), (160, 40, 0, 0, 0, 0), (162, 31, 83, 11, 36, 2), (165, 2, 0, 1, 0, 0), (166, 0, 2, 0, 0, 30), (168, 40, 0, 0, 0, 0), (170, 31, 84, 11, 37, 2), (173, 2, 0, 1, 0, 0), (174, 0, 2, 0, 0, 12), (176, 40, 0, 0, 0, 0), (178, 31, 85, 11, 39, 2), (181, 2, 0, 1, 0, 0), (182, 0, 2, 0, 0, 12), (184, 40, 0, 0, 0, 0), (186, 31, 86, 11, 40, 2), (189, 2, 0, 1, 0, 0), (190, 0, 2, 0, 0, 12), (192, 40, 0, 0, 0, 0), (194, 31, 87, 11, 41, 2), (197, 2, 0, 1, 0, 0), (198, 0, 2, 0, 0, 30), (200, 40, 0, 0, 0, 0), (202, 31, 88, 11, 42, 2), (205, 2, 0, 1, 0, 0), (206, 0, 2, 0, 0, 30), (208, 40, 0, 0, 0, 0), (210, 31, 89, 11, 43, 2), (213, 2, 0, 1, 0, 0), (214, 0, 2, 6, 0, 60000), (216, 31, 90, 11, 4, 0), (219, 2, 0, 1, 0, 0), (220, 0, 3, 0, 0, 3000), (223, 31, 91, 11, 5, 0), (226, 2, 0, 1, 0, 0), (227, 0, 2, 0, 0, 20), (229, 31, 92, 11, 6, 0), (232, 2, 0, 1, 0, 0), (233, 0, 1, 0, 0, 5), (234, 31, 93, 11, 7, 0), (237, 2, 0, 1, 0, 0), (238, 0, 1, 0, 0, 1), (239, 31, 94, 11, 8, 1), (242, 2, 0, 1, 0, 0), (243, 0, 2, 0, 0, 6), (245, 44, 5611, 195, 2, 0), (248, 50, 0, 0, 0, 0)]
def e_in_193 : List (Nat × Instr × Nat) := [(0, .lload_n 0, 1), (1, .lload_n 2, 1), (2, .lcmp, 1), (3, .ifCond .lt 14, 3), (6, .lload_n 0, 1), (7, .lload 4, 2), (9, .lcmp, 1), (10, .ifCond .gt 7, 3), (13, .iconst 1, 1), (14, .goto 4, 3), (17, .iconst 0, 1), (18, .ireturn, 1)]
/-- EvenWheelModel.in(JJJ)Z -/
def e_pg_193 : List (Nat × e_PI) := [(0, 3, 0, 1, 0, 0), (1, 3, 2, 1, 0, 0), (2, 22, 0, 0, 0, 0), (3, 28, 2, 17, 0, 0), (6, 3, 0, 1, 0, 0), (7, 3, 4, 2, 0, 0), (9, 22, 0, 0, 0, 0), (10, 28, 4, 17, 0, 0), (13, 0, 1, 0, 0, 1), (14, 27, 18, 0, 0, 0), (17, 0, 1, 0, 0, 0), (18, 52, 0, 0, 0, 0)]
def e_in_194 : List (Nat × Instr × Nat) := [(0, .iload_n 0, 1), (1, .ifCond .ge 8, 3), (4, .iload_n 0, 1), (5, .ineg, 1), (6, .goto 4, 3), (9, .iload_n 0, 1), (10, .ireturn, 1)]
/-- EvenWheelModel.size(I)I -/
def e_pg_194 : List (Nat × e_PI) := [(0, 1, 0, 1, 0, 0), (1, 28, 3, 9, 0, 0), (4, 1, 0, 1, 0, 0), (5, 11, 0, 0, 0, 0), (6, 27, 10, 0, 0, 0), (9, 1, 0, 1, 0, 0), (10, 51, 0, 0, 0, 0)]
def e_in_195 : List (Nat × Instr × Nat) := [(0, .aload_n 0, 1), (1, .iload_n 1, 1), (2, .putfield 108, 3), (5, .aload_n 0, 1), (6, .iconst 0, 1), (7, .putfield 111, 3), (10, .aload_n 0, 1), (11, .iconst 0, 1), (12, .putfield 114, 3), (15, .aload_n 0, 1), (16, .iconst 0, 1), (17, .putfield 117, 3), (20, .aload_n 0, 1), (21, .iconst 0, 1), (22, .putfield 120, 3), (25, .aload_n 0, 1), (26, .iconst 0, 1), (27, .putfield 123, 3), (30, .aload_n 0, 1), (31, .iconst 0, 1), (32, .putfield 126, 3), (35, .aload_n 0, 1), (36, .iconst 0, 1), (37, .putfield 129, 3), (40, .iconst 0, 1), (41, .istore_n 2, 1), (42, .iload_n 2, 1), (43, .bipush 30, 2), (45, .if_icmp .ge 39, 3), (48, .aload_n 0, 1), (49, .getfield 13, 3), (52, .iload_n 2, 1), (53, .iconst 0, 1), (54, .iastore, 1), (55, .aload_n 0, 1), (56, .getfield 16, 3), (59, .iload_n 2, 1), (60, .iconst 0, 1), (61, .iastore, 1), (62, .aload_n 0, 1), (63, .getfield 65, 3), (66, .iload_n 2, 1), (67, .iconst 0, 1), (68, .iastore, 1), (69, .aload_n 0, 1), (70, .getfield 68, 3), (73, .iload_n 2, 1), (74, .sipush 900, 3), (77, .iastore, 1), (78, .iinc 2 1, 3), (81, .goto (-39), 3), (84, .return_, 1)]
/-- EvenWheelModel.begin(I)V -/
def e_pg_195 : List (Nat × e_PI) := [(0, 2, 0, 1, 0, 0), (1, 1, 1, 1, 0, 0), (2, 31, 95, 11, 0, 0), (5, 2, 0, 1, 0, 0), (6, 0, 1, 0, 0, 0), (7, 31, 96, 11, 1, 0), (10, 2, 0, 1, 0, 0), (11, 0, 1, 0, 0, 0), (12, 31, 97, 11, 2, 0), (15, 2, 0, 1, 0, 0), (16, 0, 1, 0, 0, 0), (17, 31, 98, 11, 3, 0), (20, 2, 0, 1, 0, 0), (21, 0, 1, 0, 0, 0), (22, 31, 99, 11, 12, 0), (25, 2, 0, 1, 0, 0), (26, 0, 1, 0, 0, 0), (27, 31, 100, 11, 19, 0), (30, 2, 0, 1, 0, 0), (31, 0, 1, 0, 0, 0), (32, 31, 101, 11, 31, 0), (35, 2, 0, 1, 0, 0), (36, 0, 1, 0, 0, 0), (37, 31, 102, 11, 38, 0), (40, 0, 1, 0, 0, 0), (41, 4, 2, 1, 0, 0), (42, 1, 2, 1, 0, 0), (43, 0, 2, 0, 0, 30), (45, 29, 3, 84, 0, 0), (48, 2, 0, 1, 0, 0), (49, 30, 66, 11, 10, 0), (52, 1, 2, 1, 0, 0), (53, 0, 1, 0, 0, 0), (54, 33, 0, 0, 0, 0), (55, 2, 0, 1, 0, 0), (56, 30, 67, 11, 11, 0), (59, 1, 2, 1, 0, 0), (60, 0, 1, 0, 0, 0), (61, 33, 0, 0, 0, 0), (62, 2, 0, 1, 0, 0), (63, 30, 83, 11, 36, 0), (66, 1, 2, 1, 0, 0), (67, 0, 1, 0, 0, 0), (68, 33, 0, 0, 0, 0), (69, 2, 0, 1, 0, 0), (70, 30, 84, 11, 37, 0), (73, 1, 2, 1, 0, 0), (74, 0, 3, 0, 0, 900), (77, 33, 0, 0, 0, 0), (78, 7, 2, 0, 0, 1), (81, 27, 42, 0, 0, 0), (84, 50, 0, 0, 0, 0)]
def e_in_196 : List (Nat × Instr × Nat) := [(0, .iload_n 1, 1), (1, .bipush 6, 2), (3, .if_icmp .eq 30, 3), (6, .iload_n 1, 1), (7, .bipush 10, 2), (9, .if_icmp .eq 24, 3), (12, .iload_n 1, 1), (13, .bipush 12, 2), (15, .if_icmp .eq 18, 3), (18, .iload_n 1, 1), (19, .bipush 20, 2), (21, .if_icmp .eq 12, 3), (24, .iload_n 1, 1), (25, .bipush 30, 2), (27, .if_icmp .eq 6, 3), (30, .bipush (-102), 2), (32, .ireturn, 1), (33, .aload_n 0, 1), (34, .iload_n 1, 1), (35, .invokevirtual 104, 3), (38, .aload_n 0, 1), (39, .getfield 108, 3), (42, .ireturn, 1)]
/-- EvenWheelModel.build(I)I -/
def e_pg_196 : List (Nat × e_PI) := [(0, 1, 1, 1, 0, 0), (1, 0, 2, 0, 0, 6), (3, 29, 0, 33, 0, 0), (6, 1, 1, 1, 0, 0), (7, 0, 2, 0, 0, 10), (9, 29, 0, 33, 0, 0), (12, 1, 1, 1, 0, 0), (13, 0, 2, 0, 0, 12), (15, 29, 0, 33, 0, 0), (18, 1, 1, 1, 0, 0), (19, 0, 2, 0, 0, 20), (21, 29, 0, 33, 0, 0), (24, 1, 1, 1, 0, 0), (25, 0, 2, 0, 0, 30), (27, 29, 0, 33, 0, 0), (30, 0, 2, 0, 0, -102), (32, 51, 0, 0, 0, 0), (33, 2, 0, 1, 0, 0), (34, 1, 1, 1, 0, 0), (35, 44, 5611, 195, 2, 0), (38, 2, 0, 1, 0, 0), (39, 30, 95, 11, 0, 0), (42, 51, 0, 0, 0, 0)]
def e_in_197 : List (Nat × Instr × Nat) := [(0, .iload_n 0, 1), (1, .tableswitch 119 0 14 #[75, 77, 80, 83, 86, 89, 92, 95, 98, 101, 104, 107, 110, 113, 116], 75), (76, .iconst 0, 1), (77, .ireturn, 1), (78, .bipush 10, 2), (80, .ireturn, 1), (81, .bipush 21, 2), (83, .ireturn, 1), (84, .bipush 31, 2), (86, .ireturn, 1), (87, .bipush 41, 2), (89, .ireturn, 1), (90, .bipush 50, 2), (92, .ireturn, 1), (93, .bipush 59, 2), (95, .ireturn, 1), (96, .bipush 67, 2), (98, .ireturn, 1), (99, .bipush 74, 2), (101, .ireturn, 1), (102, .bipush 81, 2), (104, .ireturn, 1), (105, .bipush 87, 2), (107, .ireturn, 1), (108, .bipush 91, 2), (110, .ireturn, 1), (111, .bipush 95, 2), (113, .ireturn, 1), (114, .bipush 98, 2), (116, .ireturn, 1), (117, .bipush 99, 2), (119, .ireturn, 1), (120, .bipush 100, 2), (122, .ireturn, 1)]
/-- EvenWheelModel.reach(I)I -/
def e_pg_197 : List (Nat × e_PI) := [(0, 1, 0, 1, 0, 0), (1, 47, 4, 0, 0, 0), (76, 0, 1, 0, 0, 0), (77, 51, 0, 0, 0, 0), (78, 0, 2, 0, 0, 10), (80, 51, 0, 0, 0, 0), (81, 0, 2, 0, 0, 21), (83, 51, 0, 0, 0, 0), (84, 0, 2, 0, 0, 31), (86, 51, 0, 0, 0, 0), (87, 0, 2, 0, 0, 41), (89, 51, 0, 0, 0, 0), (90, 0, 2, 0, 0, 50), (92, 51, 0, 0, 0, 0), (93, 0, 2, 0, 0, 59), (95, 51, 0, 0, 0, 0), (96, 0, 2, 0, 0, 67), (98, 51, 0, 0, 0, 0), (99, 0, 2, 0, 0, 74), (101, 51, 0, 0, 0, 0), (102, 0, 2, 0, 0, 81), (104, 51, 0, 0, 0, 0), (105, 0, 2, 0, 0, 87), (107, 51, 0, 0, 0, 0), (108, 0, 2, 0, 0, 91), (110, 51, 0, 0, 0, 0), (111, 0, 2, 0, 0, 95), (113, 51, 0, 0, 0, 0), (114, 0, 2, 0, 0, 98), (116, 51, 0, 0, 0, 0), (117, 0, 2, 0, 0, 99), (119, 51, 0, 0, 0, 0), (120, 0, 2, 0, 0, 100), (122, 51, 0, 0, 0, 0)]
def e_in_198 : List (Nat × Instr × Nat) := [(0, .bipush 60, 2), (2, .iload_n 1, 1), (3, .imul, 1), (4, .aload_n 0, 1), (5, .getfield 108, 3), (8, .idiv, 1), (9, .istore_n 2, 1), (10, .iload_n 2, 1), (11, .bipush 30, 2), (13, .irem, 1), (14, .istore_n 3, 1), (15, .iload_n 3, 1), (16, .bipush 15, 2), (18, .if_icmp .le 10, 3), (21, .bipush 30, 2), (23, .iload_n 3, 1), (24, .isub, 1), (25, .goto 4, 3), (28, .iload_n 3, 1), (29, .invokestatic 132, 3), (32, .istore 4, 2), (34, .iload_n 2, 1), (35, .bipush 30, 2), (37, .if_icmp .le 9, 3), (40, .iload 4, 2), (42, .ineg, 1), (43, .goto 5, 3), (46, .iload 4, 2), (48, .ireturn, 1)]
/-- EvenWheelModel.armOf(I)I -/
def e_pg_198 : List (Nat × e_PI) := [(0, 0, 2, 0, 0, 60), (2, 1, 1, 1, 0, 0), (3, 10, 0, 0, 0, 0), (4, 2, 0, 1, 0, 0), (5, 30, 95, 11, 0, 0), (8, 12, 0, 0, 0, 0), (9, 4, 2, 1, 0, 0), (10, 1, 2, 1, 0, 0), (11, 0, 2, 0, 0, 30), (13, 13, 0, 0, 0, 0), (14, 4, 3, 1, 0, 0), (15, 1, 3, 1, 0, 0), (16, 0, 2, 0, 0, 15), (18, 29, 5, 28, 0, 0), (21, 0, 2, 0, 0, 30), (23, 1, 3, 1, 0, 0), (24, 9, 0, 0, 0, 0), (25, 27, 29, 0, 0, 0), (28, 1, 3, 1, 0, 0), (29, 44, 5631, 197, 1, 0), (32, 4, 4, 2, 0, 0), (34, 1, 2, 1, 0, 0), (35, 0, 2, 0, 0, 30), (37, 29, 5, 46, 0, 0), (40, 1, 4, 2, 0, 0), (42, 11, 0, 0, 0, 0), (43, 27, 48, 0, 0, 0), (46, 1, 4, 2, 0, 0), (48, 51, 0, 0, 0, 0)]
def e_in_199 : List (Nat × Instr × Nat) := [(0, .iload_n 1, 1), (1, .i2l, 1), (2, .lconst 0, 1), (3, .aload_n 0, 1), (4, .getfield 108, 3), (7, .iconst 1, 1), (8, .isub, 1), (9, .i2l, 1), (10, .invokestatic 136, 3), (13, .ifCond .eq 11, 3), (16, .aload_n 0, 1), (17, .iload_n 1, 1), (18, .invokevirtual 140, 3), (21, .goto 6, 3), (24, .sipush (-1000), 3), (27, .ireturn, 1)]
/-- EvenWheelModel.arm(I)I -/
def e_pg_199 : List (Nat × e_PI) := [(0, 1, 1, 1, 0, 0), (1, 19, 0, 0, 0, 0), (2, 23, 1, 0, 0, 0), (3, 2, 0, 1, 0, 0), (4, 30, 95, 11, 0, 0), (7, 0, 1, 0, 0, 1), (8, 9, 0, 0, 0, 0), (9, 19, 0, 0, 0, 0), (10, 44, 5647, 193, 3, 0), (13, 28, 0, 24, 0, 0), (16, 2, 0, 1, 0, 0), (17, 1, 1, 1, 0, 0), (18, 44, 5659, 198, 2, 0), (21, 27, 27, 0, 0, 0), (24, 0, 3, 0, 0, -1000), (27, 51, 0, 0, 0, 0)]
def e_in_200 : List (Nat × Instr × Nat) := [(0, .iconst 0, 1), (1, .istore_n 2, 1), (2, .iconst 0, 1), (3, .istore_n 3, 1), (4, .iload_n 3, 1), (5, .aload_n 0, 1), (6, .getfield 108, 3), (9, .if_icmp .ge 31, 3), (12, .iload_n 2, 1), (13, .aload_n 0, 1), (14, .getfield 16, 3), (17, .iload_n 3, 1), (18, .iaload, 1), (19, .aload_n 0, 1), (20, .iload_n 3, 1), (21, .iload_n 1, 1), (22, .iadd, 1), (23, .aload_n 0, 1), (24, .getfield 108, 3), (27, .irem, 1), (28, .invokevirtual 140, 3), (31, .imul, 1), (32, .iadd, 1), (33, .istore_n 2, 1), (34, .iinc 3 1, 3), (37, .goto (-33), 3), (40, .iload_n 2, 1), (41, .ireturn, 1)]
/-- EvenWheelModel.leanOf(I)I -/
def e_pg_200 : List (Nat × e_PI) := [(0, 0, 1, 0, 0, 0), (1, 4, 2, 1, 0, 0), (2, 0, 1, 0, 0, 0), (3, 4, 3, 1, 0, 0), (4, 1, 3, 1, 0, 0), (5, 2, 0, 1, 0, 0), (6, 30, 95, 11, 0, 0), (9, 29, 3, 40, 0, 0), (12, 1, 2, 1, 0, 0), (13, 2, 0, 1, 0, 0), (14, 30, 67, 11, 11, 0), (17, 1, 3, 1, 0, 0), (18, 32, 0, 0, 0, 0), (19, 2, 0, 1, 0, 0), (20, 1, 3, 1, 0, 0), (21, 1, 1, 1, 0, 0), (22, 8, 0, 0, 0, 0), (23, 2, 0, 1, 0, 0), (24, 30, 95, 11, 0, 0), (27, 13, 0, 0, 0, 0), (28, 44, 5659, 198, 2, 0), (31, 10, 0, 0, 0, 0), (32, 8, 0, 0, 0, 0), (33, 4, 2, 1, 0, 0), (34, 7, 3, 0, 0, 1), (37, 27, 4, 0, 0, 0), (40, 1, 2, 1, 0, 0), (41, 51, 0, 0, 0, 0)]
def e_in_201 : List (Nat × Instr × Nat) := [(0, .iconst 0, 1), (1, .istore_n 1, 1), (2, .iconst 1, 1), (3, .istore_n 2, 1), (4, .iload_n 2, 1), (5, .aload_n 0, 1), (6, .getfield 108, 3), (9, .if_icmp .ge 34, 3), (12, .aload_n 0, 1), (13, .iload_n 2, 1), (14, .invokevirtual 143, 3), (17, .invokestatic 146, 3), (20, .aload_n 0, 1), (21, .iload_n 1, 1), (22, .invokevirtual 143, 3), (25, .invokestatic 146, 3), (28, .if_icmp .le 7, 3), (31, .iload_n 2, 1), (32, .goto 4, 3), (35, .iload_n 1, 1), (36, .istore_n 1, 1), (37, .iinc 2 1, 3), (40, .goto (-36), 3), (43, .iload_n 1, 1), (44, .ireturn, 1)]
/-- EvenWheelModel.worstOf()I -/
def e_pg_201 : List (Nat × e_PI) := [(0, 0, 1, 0, 0, 0), (1, 4, 1, 1, 0, 0), (2, 0, 1, 0, 0, 1), (3, 4, 2, 1, 0, 0), (4, 1, 2, 1, 0, 0), (5, 2, 0, 1, 0, 0), (6, 30, 95, 11, 0, 0), (9, 29, 3, 43, 0, 0), (12, 2, 0, 1, 0, 0), (13, 1, 2, 1, 0, 0), (14, 44, 5675, 200, 2, 0), (17, 44, 5695, 194, 1, 0), (20, 2, 0, 1, 0, 0), (21, 1, 1, 1, 0, 0), (22, 44, 5675, 200, 2, 0), (25, 44, 5695, 194, 1, 0), (28, 29, 5, 35, 0, 0), (31, 1, 2, 1, 0, 0), (32, 27, 36, 0, 0, 0), (35, 1, 1, 1, 0, 0), (36, 4, 1, 1, 0, 0), (37, 7, 2, 0, 0, 1), (40, 27, 4, 0, 0, 0), (43, 1, 1, 1, 0, 0), (44, 51, 0, 0, 0, 0)]
def e_in_202 : List (Nat × Instr × Nat) := [(0, .aload_n 0, 1), (1, .aload_n 0, 1), (2, .invokevirtual 149, 3), (5, .invokevirtual 143, 3), (8, .invokestatic 146, 3), (11, .ireturn, 1)]
/-- EvenWheelModel.greatestOf()I -/
def e_pg_202 : List (Nat × e_PI) := [(0, 2, 0, 1, 0, 0), (1, 2, 0, 1, 0, 0), (2, 44, 5707, 201, 1, 0), (5, 44, 5675, 200, 2, 0), (8, 44, 5695, 194, 1, 0), (11, 51, 0, 0, 0, 0)]
def e_in_203 : List (Nat × Instr × Nat) := [(0, .iload_n 1, 1), (1, .aload_n 0, 1), (2, .getfield 111, 3), (5, .isub, 1), (6, .aload_n 0, 1), (7, .getfield 108, 3), (10, .iadd, 1), (11, .aload_n 0, 1), (12, .getfield 108, 3), (15, .irem, 1), (16, .ireturn, 1)]
/-- EvenWheelModel.atPlace(I)I -/
def e_pg_203 : List (Nat × e_PI) := [(0, 1, 1, 1, 0, 0), (1, 2, 0, 1, 0, 0), (2, 30, 96, 11, 1, 0), (5, 9, 0, 0, 0, 0), (6, 2, 0, 1, 0, 0), (7, 30, 95, 11, 0, 0), (10, 8, 0, 0, 0, 0), (11, 2, 0, 1, 0, 0), (12, 30, 95, 11, 0, 0), (15, 13, 0, 0, 0, 0), (16, 51, 0, 0, 0, 0)]
def e_in_204 : List (Nat × Instr × Nat) := [(0, .iconst 0, 1), (1, .istore_n 2, 1), (2, .iconst 0, 1), (3, .istore_n 3, 1), (4, .iload_n 3, 1), (5, .aload_n 0, 1), (6, .getfield 13, 3), (9, .iload_n 1, 1), (10, .iaload, 1), (11, .if_icmp .ge 28, 3), (14, .iload_n 2, 1), (15, .aload_n 0, 1), (16, .getfield 19, 3), (19, .aload_n 0, 1), (20, .getfield 7, 3), (23, .bipush 6, 2), (25, .iload_n 1, 1), (26, .imul, 1), (27, .iload_n 3, 1), (28, .iadd, 1), (29, .iaload, 1), (30, .iaload, 1), (31, .iadd, 1), (32, .istore_n 2, 1), (33, .iinc 3 1, 3), (36, .goto (-32), 3), (39, .iload_n 2, 1), (40, .ireturn, 1)]
/-- EvenWheelModel.personsIn(I)I -/
def e_pg_204 : List (Nat × e_PI) := [(0, 0, 1, 0, 0, 0), (1, 4, 2, 1, 0, 0), (2, 0, 1, 0, 0, 0), (3, 4, 3, 1, 0, 0), (4, 1, 3, 1, 0, 0), (5, 2, 0, 1, 0, 0), (6, 30, 66, 11, 10, 0), (9, 1, 1, 1, 0, 0), (10, 32, 0, 0, 0, 0), (11, 29, 3, 39, 0, 0), (14, 1, 2, 1, 0, 0), (15, 2, 0, 1, 0, 0), (16, 30, 68, 11, 13, 0), (19, 2, 0, 1, 0, 0), (20, 30, 65, 11, 9, 0), (23, 0, 2, 0, 0, 6), (25, 1, 1, 1, 0, 0), (26, 10, 0, 0, 0, 0), (27, 1, 3, 1, 0, 0), (28, 8, 0, 0, 0, 0), (29, 32, 0, 0, 0, 0), (30, 32, 0, 0, 0, 0), (31, 8, 0, 0, 0, 0), (32, 4, 2, 1, 0, 0), (33, 7, 3, 0, 0, 1), (36, 27, 4, 0, 0, 0), (39, 1, 2, 1, 0, 0), (40, 51, 0, 0, 0, 0)]
def e_in_205 : List (Nat × Instr × Nat) := [(0, .iconst 0, 1), (1, .istore_n 1, 1), (2, .iconst 0, 1), (3, .istore_n 2, 1), (4, .iload_n 2, 1), (5, .aload_n 0, 1), (6, .getfield 108, 3), (9, .if_icmp .ge 17, 3), (12, .iload_n 1, 1), (13, .aload_n 0, 1), (14, .iload_n 2, 1), (15, .invokevirtual 153, 3), (18, .iadd, 1), (19, .istore_n 1, 1), (20, .iinc 2 1, 3), (23, .goto (-19), 3), (26, .iload_n 1, 1), (27, .ireturn, 1)]
/-- EvenWheelModel.upNow()I -/
def e_pg_205 : List (Nat × e_PI) := [(0, 0, 1, 0, 0, 0), (1, 4, 1, 1, 0, 0), (2, 0, 1, 0, 0, 0), (3, 4, 2, 1, 0, 0), (4, 1, 2, 1, 0, 0), (5, 2, 0, 1, 0, 0), (6, 30, 95, 11, 0, 0), (9, 29, 3, 26, 0, 0), (12, 1, 1, 1, 0, 0), (13, 2, 0, 1, 0, 0), (14, 1, 2, 1, 0, 0), (15, 44, 5723, 204, 2, 0), (18, 8, 0, 0, 0, 0), (19, 4, 1, 1, 0, 0), (20, 7, 2, 0, 0, 1), (23, 27, 4, 0, 0, 0), (26, 1, 1, 1, 0, 0), (27, 51, 0, 0, 0, 0)]
def e_in_206 : List (Nat × Instr × Nat) := [(0, .iload_n 1, 1), (1, .tableswitch 140 0 8 #[51, 56, 61, 67, 78, 83, 117, 122, 127], 51), (52, .aload_n 0, 1), (53, .getfield 111, 3), (56, .ireturn, 1), (57, .aload_n 0, 1), (58, .getfield 114, 3), (61, .ireturn, 1), (62, .aload_n 0, 1), (63, .iconst 0, 1), (64, .invokevirtual 156, 3), (67, .ireturn, 1), (68, .aload_n 0, 1), (69, .aload_n 0, 1), (70, .getfield 108, 3), (73, .iconst 2, 1), (74, .idiv, 1), (75, .invokevirtual 156, 3), (78, .ireturn, 1), (79, .aload_n 0, 1), (80, .invokevirtual 159, 3), (83, .ireturn, 1), (84, .iconst 0, 1), (85, .istore_n 2, 1), (86, .iconst 0, 1), (87, .istore_n 3, 1), (88, .iload_n 3, 1), (89, .aload_n 0, 1), (90, .getfield 123, 3), (93, .if_icmp .ge 23, 3), (96, .iload_n 2, 1), (97, .aload_n 0, 1), (98, .getfield 19, 3), (101, .aload_n 0, 1), (102, .getfield 38, 3), (105, .iload_n 3, 1), (106, .iaload, 1), (107, .iaload, 1), (108, .iadd, 1), (109, .istore_n 2, 1), (110, .iinc 3 1, 3), (113, .goto (-25), 3), (116, .iload_n 2, 1), (117, .ireturn, 1), (118, .aload_n 0, 1), (119, .getfield 117, 3), (122, .ireturn, 1), (123, .aload_n 0, 1), (124, .getfield 120, 3), (127, .ireturn, 1), (128, .aload_n 0, 1), (129, .getfield 100, 3), (132, .ifCond .eq 7, 3), (135, .iconst 1, 1), (136, .goto 4, 3), (139, .iconst 0, 1), (140, .ireturn, 1), (141, .bipush (-102), 2), (143, .ireturn, 1)]
/-- EvenWheelModel.told(I)I -/
def e_pg_206 : List (Nat × e_PI) := [(0, 1, 1, 1, 0, 0), (1, 47, 5, 0, 0, 0), (52, 2, 0, 1, 0, 0), (53, 30, 96, 11, 1, 0), (56, 51, 0, 0, 0, 0), (57, 2, 0, 1, 0, 0), (58, 30, 97, 11, 2, 0), (61, 51, 0, 0, 0, 0), (62, 2, 0, 1, 0, 0), (63, 0, 1, 0, 0, 0), (64, 44, 5739, 203, 2, 0), (67, 51, 0, 0, 0, 0), (68, 2, 0, 1, 0, 0), (69, 2, 0, 1, 0, 0), (70, 30, 95, 11, 0, 0), (73, 0, 1, 0, 0, 2), (74, 12, 0, 0, 0, 0), (75, 44, 5739, 203, 2, 0), (78, 51, 0, 0, 0, 0), (79, 2, 0, 1, 0, 0), (80, 44, 5755, 205, 1, 0), (83, 51, 0, 0, 0, 0), (84, 0, 1, 0, 0, 0), (85, 4, 2, 1, 0, 0), (86, 0, 1, 0, 0, 0), (87, 4, 3, 1, 0, 0), (88, 1, 3, 1, 0, 0), (89, 2, 0, 1, 0, 0), (90, 30, 100, 11, 19, 0), (93, 29, 3, 116, 0, 0), (96, 1, 2, 1, 0, 0), (97, 2, 0, 1, 0, 0), (98, 30, 68, 11, 13, 0), (101, 2, 0, 1, 0, 0), (102, 30, 74, 11, 20, 0), (105, 1, 3, 1, 0, 0), (106, 32, 0, 0, 0, 0), (107, 32, 0, 0, 0, 0), (108, 8, 0, 0, 0, 0), (109, 4, 2, 1, 0, 0), (110, 7, 3, 0, 0, 1), (113, 27, 88, 0, 0, 0), (116, 1, 2, 1, 0, 0), (117, 51, 0, 0, 0, 0), (118, 2, 0, 1, 0, 0), (119, 30, 98, 11, 3, 0), (122, 51, 0, 0, 0, 0), (123, 2, 0, 1, 0, 0), (124, 30, 99, 11, 12, 0), (127, 51, 0, 0, 0, 0), (128, 2, 0, 1, 0, 0), (129, 30, 94, 11, 8, 0), (132, 28, 0, 139, 0, 0), (135, 0, 1, 0, 0, 1), (136, 27, 140, 0, 0, 0), (139, 0, 1, 0, 0, 0), (140, 51, 0, 0, 0, 0), (141, 0, 2, 0, 0, -102), (143, 51, 0, 0, 0, 0)]
def e_in_207 : List (Nat × Instr × Nat) := [(0, .iload_n 1, 1), (1, .i2l, 1), (2, .lconst 0, 1), (3, .ldc2_w 162, 3), (6, .invokestatic 136, 3), (9, .ifCond .ne 6, 3), (12, .bipush (-101), 2), (14, .ireturn, 1), (15, .iload_n 2, 1), (16, .i2l, 1), (17, .iload_n 1, 1), (18, .iconst 1, 1), (19, .if_icmp .ne 9, 3), (22, .ldc2_w 164, 3), (25, .goto 13, 3), (28, .iload_n 1, 1), (29, .iconst 3, 1), (30, .if_icmp .ne 7, 3), (33, .lconst 1, 1), (34, .goto 4, 3), (37, .lconst 0, 1), (38, .iload_n 1, 1), (39, .ifCond .ne 9, 3), (42, .ldc2_w 166, 3), (45, .goto 28, 3), (48, .iload_n 1, 1), (49, .iconst 1, 1), (50, .if_icmp .ne 9, 3), (53, .ldc2_w 168, 3), (56, .goto 17, 3), (59, .iload_n 1, 1), (60, .iconst 2, 1), (61, .if_icmp .ne 9, 3), (64, .ldc2_w 170, 3), (67, .goto 6, 3), (70, .ldc2_w 172, 3), (73, .invokestatic 136, 3), (76, .ifCond .ne 6, 3), (79, .bipush (-102), 2), (81, .ireturn, 1), (82, .iload_n 1, 1), (83, .ifCond .ne 10, 3), (86, .aload_n 0, 1), (87, .getfield 87, 3), (90, .goto 31, 3), (93, .iload_n 1, 1), (94, .iconst 1, 1), (95, .if_icmp .ne 10, 3), (98, .aload_n 0, 1), (99, .getfield 91, 3), (102, .goto 19, 3), (105, .iload_n 1, 1), (106, .iconst 2, 1), (107, .if_icmp .ne 10, 3), (110, .aload_n 0, 1), (111, .getfield 94, 3), (114, .goto 7, 3), (117, .aload_n 0, 1), (118, .getfield 97, 3), (121, .istore_n 3, 1), (122, .aload_n 0, 1), (123, .iload_n 1, 1), (124, .ifCond .ne 7, 3), (127, .iload_n 2, 1), (128, .goto 7, 3), (131, .aload_n 0, 1), (132, .getfield 87, 3), (135, .putfield 87, 3), (138, .aload_n 0, 1), (139, .iload_n 1, 1), (140, .iconst 1, 1), (141, .if_icmp .ne 7, 3), (144, .iload_n 2, 1), (145, .goto 7, 3), (148, .aload_n 0, 1), (149, .getfield 91, 3), (152, .putfield 91, 3), (155, .aload_n 0, 1), (156, .iload_n 1, 1), (157, .iconst 2, 1), (158, .if_icmp .ne 7, 3), (161, .iload_n 2, 1), (162, .goto 7, 3), (165, .aload_n 0, 1), (166, .getfield 94, 3), (169, .putfield 94, 3), (172, .aload_n 0, 1), (173, .iload_n 1, 1), (174, .iconst 3, 1), (175, .if_icmp .ne 7, 3), (178, .iload_n 2, 1), (179, .goto 7, 3), (182, .aload_n 0, 1), (183, .getfield 97, 3), (186, .putfield 97, 3), (189, .iload_n 3, 1), (190, .ireturn, 1)]
/-- EvenWheelModel.rule(II)I -/
def e_pg_207 : List (Nat × e_PI) := [(0, 1, 1, 1, 0, 0), (1, 19, 0, 0, 0, 0), (2, 23, 1, 0, 0, 0), (3, 23, 3, 10, 0, 3), (6, 44, 5647, 193, 3, 0), (9, 28, 1, 15, 0, 0), (12, 0, 2, 0, 0, -101), (14, 51, 0, 0, 0, 0), (15, 1, 2, 1, 0, 0), (16, 19, 0, 0, 0, 0), (17, 1, 1, 1, 0, 0), (18, 0, 1, 0, 0, 1), (19, 29, 1, 28, 0, 0), (22, 23, 3, 11, 0, 100), (25, 27, 38, 0, 0, 0), (28, 1, 1, 1, 0, 0), (29, 0, 1, 0, 0, 3), (30, 29, 1, 37, 0, 0), (33, 23, 1, 0, 0, 1), (34, 27, 38, 0, 0, 0), (37, 23, 1, 0, 0, 0), (38, 1, 1, 1, 0, 0), (39, 28, 1, 48, 0, 0), (42, 23, 3, 12, 0, 1000000), (45, 27, 73, 0, 0, 0), (48, 1, 1, 1, 0, 0), (49, 0, 1, 0, 0, 1), (50, 29, 1, 59, 0, 0), (53, 23, 3, 13, 0, 10000), (56, 27, 73, 0, 0, 0), (59, 1, 1, 1, 0, 0), (60, 0, 1, 0, 0, 2), (61, 29, 1, 70, 0, 0), (64, 23, 3, 14, 0, 500), (67, 27, 73, 0, 0, 0), (70, 23, 3, 15, 0, 20), (73, 44, 5647, 193, 3, 0), (76, 28, 1, 82, 0, 0), (79, 0, 2, 0, 0, -102), (81, 51, 0, 0, 0, 0), (82, 1, 1, 1, 0, 0), (83, 28, 1, 93, 0, 0), (86, 2, 0, 1, 0, 0), (87, 30, 90, 11, 4, 0), (90, 27, 121, 0, 0, 0), (93, 1, 1, 1, 0, 0), (94, 0, 1, 0, 0, 1), (95, 29, 1, 105, 0, 0), (98, 2, 0, 1, 0, 0), (99, 30, 91, 11, 5, 0), (102, 27, 121, 0, 0, 0), (105, 1, 1, 1, 0, 0), (106, 0, 1, 0, 0, 2), (107, 29, 1, 117, 0, 0), (110, 2, 0, 1, 0, 0), (111, 30, 92, 11, 6, 0), (114, 27, 121, 0, 0, 0), (117, 2, 0, 1, 0, 0), (118, 30, 93, 11, 7, 0), (121, 4, 3, 1, 0, 0), (122, 2, 0, 1, 0, 0), (123, 1, 1, 1, 0, 0), (124, 28, 1, 131, 0, 0), (127, 1, 2, 1, 0, 0), (128, 27, 135, 0, 0, 0), (131, 2, 0, 1, 0, 0), (132, 30, 90, 11, 4, 0), (135, 31, 90, 11, 4, 0), (138, 2, 0, 1, 0, 0), (139, 1, 1, 1, 0, 0), (140, 0, 1, 0, 0, 1), (141, 29, 1, 148, 0, 0), (144, 1, 2, 1, 0, 0), (145, 27, 152, 0, 0, 0), (148, 2, 0, 1, 0, 0), (149, 30, 91, 11, 5, 0), (152, 31, 91, 11, 5, 0), (155, 2, 0, 1, 0, 0), (156, 1, 1, 1, 0, 0), (157, 0, 1, 0, 0, 2), (158, 29, 1, 165, 0, 0), (161, 1, 2, 1, 0, 0), (162, 27, 169, 0, 0, 0), (165, 2, 0, 1, 0, 0), (166, 30, 92, 11, 6, 0), (169, 31, 92, 11, 6, 0), (172, 2, 0, 1, 0, 0), (173, 1, 1, 1, 0, 0), (174, 0, 1, 0, 0, 3), (175, 29, 1, 182, 0, 0), (178, 1, 2, 1, 0, 0), (179, 27, 186, 0, 0, 0), (182, 2, 0, 1, 0, 0), (183, 30, 93, 11, 7, 0), (186, 31, 93, 11, 7, 0), (189, 1, 3, 1, 0, 0), (190, 51, 0, 0, 0, 0)]
def e_in_208 : List (Nat × Instr × Nat) := [(0, .aload_n 0, 1), (1, .getfield 100, 3), (4, .ifCond .eq 7, 3), (7, .iconst 1, 1), (8, .goto 4, 3), (11, .iconst 0, 1), (12, .istore_n 2, 1), (13, .aload_n 0, 1), (14, .iload_n 1, 1), (15, .putfield 100, 3), (18, .iload_n 2, 1), (19, .ireturn, 1)]
/-- EvenWheelModel.drive(Z)I -/
def e_pg_208 : List (Nat × e_PI) := [(0, 2, 0, 1, 0, 0), (1, 30, 94, 11, 8, 0), (4, 28, 0, 11, 0, 0), (7, 0, 1, 0, 0, 1), (8, 27, 12, 0, 0, 0), (11, 0, 1, 0, 0, 0), (12, 4, 2, 1, 0, 0), (13, 2, 0, 1, 0, 0), (14, 1, 1, 1, 0, 0), (15, 31, 94, 11, 8, 1), (18, 1, 2, 1, 0, 0), (19, 51, 0, 0, 0, 0)]
def e_in_209 : List (Nat × Instr × Nat) := [(0, .iload_n 1, 1), (1, .i2l, 1), (2, .lconst 0, 1), (3, .aload_n 0, 1), (4, .getfield 108, 3), (7, .iconst 1, 1), (8, .isub, 1), (9, .i2l, 1), (10, .invokestatic 136, 3), (13, .ifCond .eq 11, 3), (16, .aload_n 0, 1), (17, .iload_n 1, 1), (18, .invokevirtual 143, 3), (21, .goto 5, 3), (24, .ldc 174, 2), (26, .ireturn, 1)]
/-- EvenWheelModel.lean(I)I -/
def e_pg_209 : List (Nat × e_PI) := [(0, 1, 1, 1, 0, 0), (1, 19, 0, 0, 0, 0), (2, 23, 1, 0, 0, 0), (3, 2, 0, 1, 0, 0), (4, 30, 95, 11, 0, 0), (7, 0, 1, 0, 0, 1), (8, 9, 0, 0, 0, 0), (9, 19, 0, 0, 0, 0), (10, 44, 5647, 193, 3, 0), (13, 28, 0, 24, 0, 0), (16, 2, 0, 1, 0, 0), (17, 1, 1, 1, 0, 0), (18, 44, 5675, 200, 2, 0), (21, 27, 26, 0, 0, 0), (24, 0, 2, 7, 0, -1000000001), (26, 51, 0, 0, 0, 0)]
def e_in_210 : List (Nat × Instr × Nat) := [(0, .aload_n 0, 1), (1, .invokevirtual 175, 3), (4, .ireturn, 1)]
/-- EvenWheelModel.greatest()I -/
def e_pg_210 : List (Nat × e_PI) := [(0, 2, 0, 1, 0, 0), (1, 44, 5771, 202, 1, 0), (4, 51, 0, 0, 0, 0)]
def e_in_211 : List (Nat × Instr × Nat) := [(0, .aload_n 0, 1), (1, .invokevirtual 149, 3), (4, .ireturn, 1)]
/-- EvenWheelModel.worst()I -/
def e_pg_211 : List (Nat × e_PI) := [(0, 2, 0, 1, 0, 0), (1, 44, 5707, 201, 1, 0), (4, 51, 0, 0, 0, 0)]
def e_in_212 : List (Nat × Instr × Nat) := [(0, .iload_n 1, 1), (1, .i2l, 1), (2, .lconst 0, 1), (3, .aload_n 0, 1), (4, .getfield 108, 3), (7, .iconst 1, 1), (8, .isub, 1), (9, .i2l, 1), (10, .invokestatic 136, 3), (13, .ireturn, 1)]
/-- EvenWheelModel.isCabin(I)Z -/
def e_pg_212 : List (Nat × e_PI) := [(0, 1, 1, 1, 0, 0), (1, 19, 0, 0, 0, 0), (2, 23, 1, 0, 0, 0), (3, 2, 0, 1, 0, 0), (4, 30, 95, 11, 0, 0), (7, 0, 1, 0, 0, 1), (8, 9, 0, 0, 0, 0), (9, 19, 0, 0, 0, 0), (10, 44, 5647, 193, 3, 0), (13, 52, 0, 0, 0, 0)]
def e_in_213 : List (Nat × Instr × Nat) := [(0, .aload_n 0, 1), (1, .iload_n 1, 1), (2, .invokevirtual 178, 3), (5, .ifCond .eq 12, 3), (8, .aload_n 0, 1), (9, .getfield 16, 3), (12, .iload_n 1, 1), (13, .iaload, 1), (14, .goto 5, 3), (17, .bipush (-101), 2), (19, .ireturn, 1)]
/-- EvenWheelModel.load(I)I -/
def e_pg_213 : List (Nat × e_PI) := [(0, 2, 0, 1, 0, 0), (1, 1, 1, 1, 0, 0), (2, 44, 5787, 212, 2, 0), (5, 28, 0, 17, 0, 0), (8, 2, 0, 1, 0, 0), (9, 30, 67, 11, 11, 0), (12, 1, 1, 1, 0, 0), (13, 32, 0, 0, 0, 0), (14, 27, 19, 0, 0, 0), (17, 0, 2, 0, 0, -101), (19, 51, 0, 0, 0, 0)]
def e_in_214 : List (Nat × Instr × Nat) := [(0, .iconst 0, 1), (1, .istore_n 2, 1), (2, .iconst 0, 1), (3, .istore_n 3, 1), (4, .iload_n 3, 1), (5, .aload_n 0, 1), (6, .getfield 13, 3), (9, .iload_n 1, 1), (10, .iaload, 1), (11, .if_icmp .ge 41, 3), (14, .iload_n 2, 1), (15, .ifCond .ne 25, 3), (18, .aload_n 0, 1), (19, .getfield 25, 3), (22, .aload_n 0, 1), (23, .getfield 7, 3), (26, .bipush 6, 2), (28, .iload_n 1, 1), (29, .imul, 1), (30, .iload_n 3, 1), (31, .iadd, 1), (32, .iaload, 1), (33, .iaload, 1), (34, .iconst 2, 1), (35, .irem, 1), (36, .iconst 1, 1), (37, .if_icmp .ne 7, 3), (40, .iconst 1, 1), (41, .goto 4, 3), (44, .iconst 0, 1), (45, .istore_n 2, 1), (46, .iinc 3 1, 3), (49, .goto (-45), 3), (52, .iload_n 2, 1), (53, .ireturn, 1)]
/-- EvenWheelModel.isAlone(I)Z -/
def e_pg_214 : List (Nat × e_PI) := [(0, 0, 1, 0, 0, 0), (1, 4, 2, 1, 0, 0), (2, 0, 1, 0, 0, 0), (3, 4, 3, 1, 0, 0), (4, 1, 3, 1, 0, 0), (5, 2, 0, 1, 0, 0), (6, 30, 66, 11, 10, 0), (9, 1, 1, 1, 0, 0), (10, 32, 0, 0, 0, 0), (11, 29, 3, 52, 0, 0), (14, 1, 2, 1, 0, 0), (15, 28, 1, 40, 0, 0), (18, 2, 0, 1, 0, 0), (19, 30, 70, 11, 15, 0), (22, 2, 0, 1, 0, 0), (23, 30, 65, 11, 9, 0), (26, 0, 2, 0, 0, 6), (28, 1, 1, 1, 0, 0), (29, 10, 0, 0, 0, 0), (30, 1, 3, 1, 0, 0), (31, 8, 0, 0, 0, 0), (32, 32, 0, 0, 0, 0), (33, 32, 0, 0, 0, 0), (34, 0, 1, 0, 0, 2), (35, 13, 0, 0, 0, 0), (36, 0, 1, 0, 0, 1), (37, 29, 1, 44, 0, 0), (40, 0, 1, 0, 0, 1), (41, 27, 45, 0, 0, 0), (44, 0, 1, 0, 0, 0), (45, 4, 2, 1, 0, 0), (46, 7, 3, 0, 0, 1), (49, 27, 4, 0, 0, 0), (52, 1, 2, 1, 0, 0), (53, 52, 0, 0, 0, 0)]
def e_in_215 : List (Nat × Instr × Nat) := [(0, .aload_n 0, 1), (1, .iload_n 1, 1), (2, .invokevirtual 178, 3), (5, .ifCond .ne 6, 3), (8, .bipush (-101), 2), (10, .ireturn, 1), (11, .iload_n 2, 1), (12, .ifCond .ne 11, 3), (15, .aload_n 0, 1), (16, .iload_n 1, 1), (17, .invokevirtual 153, 3), (20, .goto 59, 3), (23, .iload_n 2, 1), (24, .iconst 1, 1), (25, .if_icmp .ne 12, 3), (28, .aload_n 0, 1), (29, .getfield 13, 3), (32, .iload_n 1, 1), (33, .iaload, 1), (34, .goto 45, 3), (37, .iload_n 2, 1), (38, .iconst 2, 1), (39, .if_icmp .ne 19, 3), (42, .aload_n 0, 1), (43, .iload_n 1, 1), (44, .invokevirtual 182, 3), (47, .ifCond .eq 7, 3), (50, .iconst 1, 1), (51, .goto 28, 3), (54, .iconst 0, 1), (55, .goto 24, 3), (58, .iload_n 2, 1), (59, .iconst 3, 1), (60, .if_icmp .ne 17, 3), (63, .iload_n 1, 1), (64, .aload_n 0, 1), (65, .getfield 111, 3), (68, .iadd, 1), (69, .aload_n 0, 1), (70, .getfield 108, 3), (73, .irem, 1), (74, .goto 5, 3), (77, .bipush (-102), 2), (79, .ireturn, 1)]
/-- EvenWheelModel.cabin(II)I -/
def e_pg_215 : List (Nat × e_PI) := [(0, 2, 0, 1, 0, 0), (1, 1, 1, 1, 0, 0), (2, 44, 5787, 212, 2, 0), (5, 28, 1, 11, 0, 0), (8, 0, 2, 0, 0, -101), (10, 51, 0, 0, 0, 0), (11, 1, 2, 1, 0, 0), (12, 28, 1, 23, 0, 0), (15, 2, 0, 1, 0, 0), (16, 1, 1, 1, 0, 0), (17, 44, 5723, 204, 2, 0), (20, 27, 79, 0, 0, 0), (23, 1, 2, 1, 0, 0), (24, 0, 1, 0, 0, 1), (25, 29, 1, 37, 0, 0), (28, 2, 0, 1, 0, 0), (29, 30, 66, 11, 10, 0), (32, 1, 1, 1, 0, 0), (33, 32, 0, 0, 0, 0), (34, 27, 79, 0, 0, 0), (37, 1, 2, 1, 0, 0), (38, 0, 1, 0, 0, 2), (39, 29, 1, 58, 0, 0), (42, 2, 0, 1, 0, 0), (43, 1, 1, 1, 0, 0), (44, 44, 5803, 214, 2, 0), (47, 28, 0, 54, 0, 0), (50, 0, 1, 0, 0, 1), (51, 27, 79, 0, 0, 0), (54, 0, 1, 0, 0, 0), (55, 27, 79, 0, 0, 0), (58, 1, 2, 1, 0, 0), (59, 0, 1, 0, 0, 3), (60, 29, 1, 77, 0, 0), (63, 1, 1, 1, 0, 0), (64, 2, 0, 1, 0, 0), (65, 30, 96, 11, 1, 0), (68, 8, 0, 0, 0, 0), (69, 2, 0, 1, 0, 0), (70, 30, 95, 11, 0, 0), (73, 13, 0, 0, 0, 0), (74, 27, 79, 0, 0, 0), (77, 0, 2, 0, 0, -102), (79, 51, 0, 0, 0, 0)]
def e_in_216 : List (Nat × Instr × Nat) := [(0, .aload_n 0, 1), (1, .iload_n 1, 1), (2, .invokevirtual 178, 3), (5, .ifCond .ne 6, 3), (8, .bipush (-101), 2), (10, .ireturn, 1), (11, .iload_n 2, 1), (12, .i2l, 1), (13, .lconst 0, 1), (14, .aload_n 0, 1), (15, .getfield 13, 3), (18, .iload_n 1, 1), (19, .iaload, 1), (20, .iconst 1, 1), (21, .isub, 1), (22, .i2l, 1), (23, .invokestatic 136, 3), (26, .ifCond .eq 17, 3), (29, .aload_n 0, 1), (30, .getfield 7, 3), (33, .bipush 6, 2), (35, .iload_n 1, 1), (36, .imul, 1), (37, .iload_n 2, 1), (38, .iadd, 1), (39, .iaload, 1), (40, .goto 4, 3), (43, .iconst (-1), 1), (44, .ireturn, 1)]
/-- EvenWheelModel.inside(II)I -/
def e_pg_216 : List (Nat × e_PI) := [(0, 2, 0, 1, 0, 0), (1, 1, 1, 1, 0, 0), (2, 44, 5787, 212, 2, 0), (5, 28, 1, 11, 0, 0), (8, 0, 2, 0, 0, -101), (10, 51, 0, 0, 0, 0), (11, 1, 2, 1, 0, 0), (12, 19, 0, 0, 0, 0), (13, 23, 1, 0, 0, 0), (14, 2, 0, 1, 0, 0), (15, 30, 66, 11, 10, 0), (18, 1, 1, 1, 0, 0), (19, 32, 0, 0, 0, 0), (20, 0, 1, 0, 0, 1), (21, 9, 0, 0, 0, 0), (22, 19, 0, 0, 0, 0), (23, 44, 5647, 193, 3, 0), (26, 28, 0, 43, 0, 0), (29, 2, 0, 1, 0, 0), (30, 30, 65, 11, 9, 0), (33, 0, 2, 0, 0, 6), (35, 1, 1, 1, 0, 0), (36, 10, 0, 0, 0, 0), (37, 1, 2, 1, 0, 0), (38, 8, 0, 0, 0, 0), (39, 32, 0, 0, 0, 0), (40, 27, 44, 0, 0, 0), (43, 0, 1, 0, 0, -1), (44, 51, 0, 0, 0, 0)]
def e_in_217 : List (Nat × Instr × Nat) := [(0, .aload_n 0, 1), (1, .aload_n 0, 1), (2, .getfield 111, 3), (5, .iconst 1, 1), (6, .iadd, 1), (7, .aload_n 0, 1), (8, .getfield 108, 3), (11, .irem, 1), (12, .invokevirtual 143, 3), (15, .istore_n 1, 1), (16, .iload_n 1, 1), (17, .invokestatic 146, 3), (20, .aload_n 0, 1), (21, .getfield 87, 3), (24, .if_icmp .le 5, 3), (27, .iconst 1, 1), (28, .ireturn, 1), (29, .iload_n 1, 1), (30, .ifCond .ge 16, 3), (33, .aload_n 0, 1), (34, .getfield 114, 3), (37, .iload_n 1, 1), (38, .ineg, 1), (39, .bipush 100, 2), (41, .idiv, 1), (42, .iadd, 1), (43, .goto 27, 3), (46, .aload_n 0, 1), (47, .getfield 114, 3), (50, .aload_n 0, 1), (51, .getfield 94, 3), (54, .if_icmp .le 15, 3), (57, .aload_n 0, 1), (58, .getfield 114, 3), (61, .aload_n 0, 1), (62, .getfield 94, 3), (65, .isub, 1), (66, .goto 4, 3), (69, .iconst 0, 1), (70, .istore_n 2, 1), (71, .iload_n 2, 1), (72, .aload_n 0, 1), (73, .getfield 91, 3), (76, .if_icmp .le 5, 3), (79, .iconst 2, 1), (80, .ireturn, 1), (81, .iload_n 1, 1), (82, .ifCond .le 14, 3), (85, .aload_n 0, 1), (86, .getfield 100, 3), (89, .ifCond .ne 7, 3), (92, .iconst 3, 1), (93, .goto 4, 3), (96, .iconst 0, 1), (97, .ireturn, 1)]
/-- EvenWheelModel.whyOf()I -/
def e_pg_217 : List (Nat × e_PI) := [(0, 2, 0, 1, 0, 0), (1, 2, 0, 1, 0, 0), (2, 30, 96, 11, 1, 0), (5, 0, 1, 0, 0, 1), (6, 8, 0, 0, 0, 0), (7, 2, 0, 1, 0, 0), (8, 30, 95, 11, 0, 0), (11, 13, 0, 0, 0, 0), (12, 44, 5675, 200, 2, 0), (15, 4, 1, 1, 0, 0), (16, 1, 1, 1, 0, 0), (17, 44, 5695, 194, 1, 0), (20, 2, 0, 1, 0, 0), (21, 30, 90, 11, 4, 0), (24, 29, 5, 29, 0, 0), (27, 0, 1, 0, 0, 1), (28, 51, 0, 0, 0, 0), (29, 1, 1, 1, 0, 0), (30, 28, 3, 46, 0, 0), (33, 2, 0, 1, 0, 0), (34, 30, 97, 11, 2, 0), (37, 1, 1, 1, 0, 0), (38, 11, 0, 0, 0, 0), (39, 0, 2, 0, 0, 100), (41, 12, 0, 0, 0, 0), (42, 8, 0, 0, 0, 0), (43, 27, 70, 0, 0, 0), (46, 2, 0, 1, 0, 0), (47, 30, 97, 11, 2, 0), (50, 2, 0, 1, 0, 0), (51, 30, 92, 11, 6, 0), (54, 29, 5, 69, 0, 0), (57, 2, 0, 1, 0, 0), (58, 30, 97, 11, 2, 0), (61, 2, 0, 1, 0, 0), (62, 30, 92, 11, 6, 0), (65, 9, 0, 0, 0, 0), (66, 27, 70, 0, 0, 0), (69, 0, 1, 0, 0, 0), (70, 4, 2, 1, 0, 0), (71, 1, 2, 1, 0, 0), (72, 2, 0, 1, 0, 0), (73, 30, 91, 11, 5, 0), (76, 29, 5, 81, 0, 0), (79, 0, 1, 0, 0, 2), (80, 51, 0, 0, 0, 0), (81, 1, 1, 1, 0, 0), (82, 28, 5, 96, 0, 0), (85, 2, 0, 1, 0, 0), (86, 30, 94, 11, 8, 0), (89, 28, 1, 96, 0, 0), (92, 0, 1, 0, 0, 3), (93, 27, 97, 0, 0, 0), (96, 0, 1, 0, 0, 0), (97, 51, 0, 0, 0, 0)]
def e_in_218 : List (Nat × Instr × Nat) := [(0, .aload_n 0, 1), (1, .invokevirtual 185, 3), (4, .ifCond .eq 5, 3), (7, .iconst 0, 1), (8, .ireturn, 1), (9, .aload_n 0, 1), (10, .aload_n 0, 1), (11, .getfield 111, 3), (14, .iconst 1, 1), (15, .iadd, 1), (16, .aload_n 0, 1), (17, .getfield 108, 3), (20, .irem, 1), (21, .putfield 111, 3), (24, .aload_n 0, 1), (25, .aload_n 0, 1), (26, .getfield 111, 3), (29, .invokevirtual 143, 3), (32, .istore_n 1, 1), (33, .iload_n 1, 1), (34, .ifCond .ge 20, 3), (37, .aload_n 0, 1), (38, .dup, 1), (39, .getfield 114, 3), (42, .iload_n 1, 1), (43, .ineg, 1), (44, .bipush 100, 2), (46, .idiv, 1), (47, .iadd, 1), (48, .putfield 114, 3), (51, .goto 31, 3), (54, .aload_n 0, 1), (55, .aload_n 0, 1), (56, .getfield 114, 3), (59, .aload_n 0, 1), (60, .getfield 94, 3), (63, .if_icmp .le 15, 3), (66, .aload_n 0, 1), (67, .getfield 114, 3), (70, .aload_n 0, 1), (71, .getfield 94, 3), (74, .isub, 1), (75, .goto 4, 3), (78, .iconst 0, 1), (79, .putfield 114, 3), (82, .aload_n 0, 1), (83, .dup, 1), (84, .getfield 117, 3), (87, .iconst 1, 1), (88, .iadd, 1), (89, .putfield 117, 3), (92, .iconst 1, 1), (93, .ireturn, 1)]
/-- EvenWheelModel.goesOn()Z -/
def e_pg_218 : List (Nat × e_PI) := [(0, 2, 0, 1, 0, 0), (1, 44, 5819, 217, 1, 0), (4, 28, 0, 9, 0, 0), (7, 0, 1, 0, 0, 0), (8, 52, 0, 0, 0, 0), (9, 2, 0, 1, 0, 0), (10, 2, 0, 1, 0, 0), (11, 30, 96, 11, 1, 0), (14, 0, 1, 0, 0, 1), (15, 8, 0, 0, 0, 0), (16, 2, 0, 1, 0, 0), (17, 30, 95, 11, 0, 0), (20, 13, 0, 0, 0, 0), (21, 31, 96, 11, 1, 0), (24, 2, 0, 1, 0, 0), (25, 2, 0, 1, 0, 0), (26, 30, 96, 11, 1, 0), (29, 44, 5675, 200, 2, 0), (32, 4, 1, 1, 0, 0), (33, 1, 1, 1, 0, 0), (34, 28, 3, 54, 0, 0), (37, 2, 0, 1, 0, 0), (38, 24, 0, 0, 0, 0), (39, 30, 97, 11, 2, 0), (42, 1, 1, 1, 0, 0), (43, 11, 0, 0, 0, 0), (44, 0, 2, 0, 0, 100), (46, 12, 0, 0, 0, 0), (47, 8, 0, 0, 0, 0), (48, 31, 97, 11, 2, 0), (51, 27, 82, 0, 0, 0), (54, 2, 0, 1, 0, 0), (55, 2, 0, 1, 0, 0), (56, 30, 97, 11, 2, 0), (59, 2, 0, 1, 0, 0), (60, 30, 92, 11, 6, 0), (63, 29, 5, 78, 0, 0), (66, 2, 0, 1, 0, 0), (67, 30, 97, 11, 2, 0), (70, 2, 0, 1, 0, 0), (71, 30, 92, 11, 6, 0), (74, 9, 0, 0, 0, 0), (75, 27, 79, 0, 0, 0), (78, 0, 1, 0, 0, 0), (79, 31, 97, 11, 2, 0), (82, 2, 0, 1, 0, 0), (83, 24, 0, 0, 0, 0), (84, 30, 98, 11, 3, 0), (87, 0, 1, 0, 0, 1), (88, 8, 0, 0, 0, 0), (89, 31, 98, 11, 3, 0), (92, 0, 1, 0, 0, 1), (93, 52, 0, 0, 0, 0)]
def e_in_219 : List (Nat × Instr × Nat) := [(0, .aload_n 0, 1), (1, .invokevirtual 188, 3), (4, .ifCond .eq 10, 3), (7, .aload_n 0, 1), (8, .getfield 111, 3), (11, .goto 5, 3), (14, .bipush (-103), 2), (16, .ireturn, 1)]
/-- EvenWheelModel.step()I -/
def e_pg_219 : List (Nat × e_PI) := [(0, 2, 0, 1, 0, 0), (1, 44, 5835, 218, 1, 0), (4, 28, 0, 14, 0, 0), (7, 2, 0, 1, 0, 0), (8, 30, 96, 11, 1, 0), (11, 27, 16, 0, 0, 0), (14, 0, 2, 0, 0, -103), (16, 51, 0, 0, 0, 0)]
def e_in_220 : List (Nat × Instr × Nat) := [(0, .aload_n 0, 1), (1, .invokevirtual 185, 3), (4, .ireturn, 1)]
/-- EvenWheelModel.why()I -/
def e_pg_220 : List (Nat × e_PI) := [(0, 2, 0, 1, 0, 0), (1, 44, 5819, 217, 1, 0), (4, 51, 0, 0, 0, 0)]
def e_in_221 : List (Nat × Instr × Nat) := [(0, .iload_n 1, 1), (1, .i2l, 1), (2, .lconst 0, 1), (3, .ldc2_w 192, 3), (6, .invokestatic 136, 3), (9, .ifCond .ne 6, 3), (12, .bipush (-102), 2), (14, .ireturn, 1), (15, .iconst 0, 1), (16, .istore_n 2, 1), (17, .iload_n 2, 1), (18, .iload_n 1, 1), (19, .if_icmp .ge 16, 3), (22, .aload_n 0, 1), (23, .invokevirtual 188, 3), (26, .ifCond .eq 9, 3), (29, .iinc 2 1, 3), (32, .goto (-15), 3), (35, .aload_n 0, 1), (36, .aload_n 0, 1), (37, .getfield 108, 3), (40, .iconst 2, 1), (41, .idiv, 1), (42, .invokevirtual 156, 3), (45, .istore_n 3, 1), (46, .iconst 0, 1), (47, .istore 4, 2), (49, .iload 4, 2), (51, .aload_n 0, 1), (52, .getfield 13, 3), (55, .iload_n 3, 1), (56, .iaload, 1), (57, .if_icmp .ge 27, 3), (60, .aload_n 0, 1), (61, .getfield 31, 3), (64, .aload_n 0, 1), (65, .getfield 7, 3), (68, .bipush 6, 2), (70, .iload_n 3, 1), (71, .imul, 1), (72, .iload 4, 2), (74, .iadd, 1), (75, .iaload, 1), (76, .iconst 1, 1), (77, .bastore, 1), (78, .iinc 4 1, 3), (81, .goto (-32), 3), (84, .iload_n 2, 1), (85, .ireturn, 1)]
/-- EvenWheelModel.stop(I)I -/
def e_pg_221 : List (Nat × e_PI) := [(0, 1, 1, 1, 0, 0), (1, 19, 0, 0, 0, 0), (2, 23, 1, 0, 0, 0), (3, 23, 3, 16, 0, 60), (6, 44, 5647, 193, 3, 0), (9, 28, 1, 15, 0, 0), (12, 0, 2, 0, 0, -102), (14, 51, 0, 0, 0, 0), (15, 0, 1, 0, 0, 0), (16, 4, 2, 1, 0, 0), (17, 1, 2, 1, 0, 0), (18, 1, 1, 1, 0, 0), (19, 29, 3, 35, 0, 0), (22, 2, 0, 1, 0, 0), (23, 44, 5835, 218, 1, 0), (26, 28, 0, 35, 0, 0), (29, 7, 2, 0, 0, 1), (32, 27, 17, 0, 0, 0), (35, 2, 0, 1, 0, 0), (36, 2, 0, 1, 0, 0), (37, 30, 95, 11, 0, 0), (40, 0, 1, 0, 0, 2), (41, 12, 0, 0, 0, 0), (42, 44, 5739, 203, 2, 0), (45, 4, 3, 1, 0, 0), (46, 0, 1, 0, 0, 0), (47, 4, 4, 2, 0, 0), (49, 1, 4, 2, 0, 0), (51, 2, 0, 1, 0, 0), (52, 30, 66, 11, 10, 0), (55, 1, 3, 1, 0, 0), (56, 32, 0, 0, 0, 0), (57, 29, 3, 84, 0, 0), (60, 2, 0, 1, 0, 0), (61, 30, 72, 11, 17, 0), (64, 2, 0, 1, 0, 0), (65, 30, 65, 11, 9, 0), (68, 0, 2, 0, 0, 6), (70, 1, 3, 1, 0, 0), (71, 10, 0, 0, 0, 0), (72, 1, 4, 2, 0, 0), (74, 8, 0, 0, 0, 0), (75, 32, 0, 0, 0, 0), (76, 0, 1, 0, 0, 1), (77, 35, 0, 0, 0, 0), (78, 7, 4, 0, 0, 1), (81, 27, 49, 0, 0, 0), (84, 1, 2, 1, 0, 0), (85, 51, 0, 0, 0, 0)]
def e_in_222 : List (Nat × Instr × Nat) := [(0, .iload_n 0, 1), (1, .i2l, 1), (2, .ldc2_w 194, 3), (5, .ldc2_w 196, 3), (8, .invokestatic 136, 3), (11, .ireturn, 1)]
/-- EvenWheelModel.isWeight(I)Z -/
def e_pg_222 : List (Nat × e_PI) := [(0, 1, 0, 1, 0, 0), (1, 19, 0, 0, 0, 0), (2, 23, 3, 17, 0, 5), (5, 23, 3, 18, 0, 150), (8, 44, 5647, 193, 3, 0), (11, 52, 0, 0, 0, 0)]
def e_in_223 : List (Nat × Instr × Nat) := [(0, .iload_n 1, 1), (1, .i2l, 1), (2, .lconst 1, 1), (3, .ldc2_w 198, 3), (6, .invokestatic 136, 3), (9, .ifCond .eq 38, 3), (12, .iload_n 2, 1), (13, .invokestatic 200, 3), (16, .ifCond .eq 31, 3), (19, .iload_n 3, 1), (20, .invokestatic 200, 3), (23, .ifCond .eq 24, 3), (26, .iload 4, 2), (28, .invokestatic 200, 3), (31, .ifCond .eq 16, 3), (34, .iload 5, 2), (36, .i2l, 1), (37, .lconst 0, 1), (38, .ldc2_w 162, 3), (41, .invokestatic 136, 3), (44, .ifCond .ne 6, 3), (47, .bipush (-102), 2), (49, .ireturn, 1), (50, .aload_n 0, 1), (51, .getfield 123, 3), (54, .bipush 30, 2), (56, .if_icmp .eq 13, 3), (59, .aload_n 0, 1), (60, .getfield 120, 3), (63, .sipush 200, 3), (66, .if_icmp .ne 6, 3), (69, .bipush (-104), 2), (71, .ireturn, 1), (72, .iconst 0, 1), (73, .istore 6, 2), (75, .iconst 0, 1), (76, .istore 7, 2), (78, .iload 7, 2), (80, .iload_n 1, 1), (81, .if_icmp .ge 39, 3), (84, .iload 6, 2), (86, .iload 7, 2), (88, .iconst 3, 1), (89, .irem, 1), (90, .ifCond .ne 7, 3), (93, .iload_n 2, 1), (94, .goto 17, 3), (97, .iload 7, 2), (99, .iconst 3, 1), (100, .irem, 1), (101, .iconst 1, 1), (102, .if_icmp .ne 7, 3), (105, .iload_n 3, 1), (106, .goto 5, 3), (109, .iload 4, 2), (111, .iadd, 1), (112, .istore 6, 2), (114, .iinc 7 1, 3), (117, .goto (-39), 3), (120, .aload_n 0, 1), (121, .getfield 19, 3), (124, .aload_n 0, 1), (125, .getfield 120, 3), (128, .iload_n 1, 1), (129, .iastore, 1), (130, .aload_n 0, 1), (131, .getfield 22, 3), (134, .aload_n 0, 1), (135, .getfield 120, 3), (138, .iload 6, 2), (140, .iastore, 1), (141, .aload_n 0, 1), (142, .getfield 25, 3), (145, .aload_n 0, 1), (146, .getfield 120, 3), (149, .iload 5, 2), (151, .iastore, 1), (152, .aload_n 0, 1), (153, .getfield 28, 3), (156, .aload_n 0, 1), (157, .getfield 120, 3), (160, .bipush 100, 2), (162, .iastore, 1), (163, .aload_n 0, 1), (164, .getfield 31, 3), (167, .aload_n 0, 1), (168, .getfield 120, 3), (171, .iconst 0, 1), (172, .bastore, 1), (173, .aload_n 0, 1), (174, .getfield 35, 3), (177, .aload_n 0, 1), (178, .getfield 120, 3), (181, .iconst 0, 1), (182, .iastore, 1), (183, .aload_n 0, 1), (184, .getfield 38, 3), (187, .aload_n 0, 1), (188, .getfield 123, 3), (191, .aload_n 0, 1), (192, .getfield 120, 3), (195, .iastore, 1), (196, .aload_n 0, 1), (197, .dup, 1), (198, .getfield 123, 3), (201, .iconst 1, 1), (202, .iadd, 1), (203, .putfield 123, 3), (206, .aload_n 0, 1), (207, .dup, 1), (208, .getfield 120, 3), (211, .iconst 1, 1), (212, .iadd, 1), (213, .putfield 120, 3), (216, .aload_n 0, 1), (217, .getfield 120, 3), (220, .iconst 1, 1), (221, .isub, 1), (222, .ireturn, 1)]
/-- EvenWheelModel.come(IIIII)I -/
def e_pg_223 : List (Nat × e_PI) := [(0, 1, 1, 1, 0, 0), (1, 19, 0, 0, 0, 0), (2, 23, 1, 0, 0, 1), (3, 23, 3, 19, 0, 6), (6, 44, 5647, 193, 3, 0), (9, 28, 0, 47, 0, 0), (12, 1, 2, 1, 0, 0), (13, 44, 5855, 222, 1, 0), (16, 28, 0, 47, 0, 0), (19, 1, 3, 1, 0, 0), (20, 44, 5855, 222, 1, 0), (23, 28, 0, 47, 0, 0), (26, 1, 4, 2, 0, 0), (28, 44, 5855, 222, 1, 0), (31, 28, 0, 47, 0, 0), (34, 1, 5, 2, 0, 0), (36, 19, 0, 0, 0, 0), (37, 23, 1, 0, 0, 0), (38, 23, 3, 10, 0, 3), (41, 44, 5647, 193, 3, 0), (44, 28, 1, 50, 0, 0), (47, 0, 2, 0, 0, -102), (49, 51, 0, 0, 0, 0), (50, 2, 0, 1, 0, 0), (51, 30, 100, 11, 19, 0), (54, 0, 2, 0, 0, 30), (56, 29, 0, 69, 0, 0), (59, 2, 0, 1, 0, 0), (60, 30, 99, 11, 12, 0), (63, 0, 3, 0, 0, 200), (66, 29, 1, 72, 0, 0), (69, 0, 2, 0, 0, -104), (71, 51, 0, 0, 0, 0), (72, 0, 1, 0, 0, 0), (73, 4, 6, 2, 0, 0), (75, 0, 1, 0, 0, 0), (76, 4, 7, 2, 0, 0), (78, 1, 7, 2, 0, 0), (80, 1, 1, 1, 0, 0), (81, 29, 3, 120, 0, 0), (84, 1, 6, 2, 0, 0), (86, 1, 7, 2, 0, 0), (88, 0, 1, 0, 0, 3), (89, 13, 0, 0, 0, 0), (90, 28, 1, 97, 0, 0), (93, 1, 2, 1, 0, 0), (94, 27, 111, 0, 0, 0), (97, 1, 7, 2, 0, 0), (99, 0, 1, 0, 0, 3), (100, 13, 0, 0, 0, 0), (101, 0, 1, 0, 0, 1), (102, 29, 1, 109, 0, 0), (105, 1, 3, 1, 0, 0), (106, 27, 111, 0, 0, 0), (109, 1, 4, 2, 0, 0), (111, 8, 0, 0, 0, 0), (112, 4, 6, 2, 0, 0), (114, 7, 7, 0, 0, 1), (117, 27, 78, 0, 0, 0), (120, 2, 0, 1, 0, 0), (121, 30, 68, 11, 13, 0), (124, 2, 0, 1, 0, 0), (125, 30, 99, 11, 12, 0), (128, 1, 1, 1, 0, 0), (129, 33, 0, 0, 0, 0), (130, 2, 0, 1, 0, 0), (131, 30, 69, 11, 14, 0), (134, 2, 0, 1, 0, 0), (135, 30, 99, 11, 12, 0), (138, 1, 6, 2, 0, 0), (140, 33, 0, 0, 0, 0), (141, 2, 0, 1, 0, 0), (142, 30, 70, 11, 15, 0), (145, 2, 0, 1, 0, 0), (146, 30, 99, 11, 12, 0), (149, 1, 5, 2, 0, 0), (151, 33, 0, 0, 0, 0), (152, 2, 0, 1, 0, 0), (153, 30, 71, 11, 16, 0), (156, 2, 0, 1, 0, 0), (157, 30, 99, 11, 12, 0), (160, 0, 2, 0, 0, 100), (162, 33, 0, 0, 0, 0), (163, 2, 0, 1, 0, 0), (164, 30, 72, 11, 17, 0), (167, 2, 0, 1, 0, 0), (168, 30, 99, 11, 12, 0), (171, 0, 1, 0, 0, 0), (172, 35, 0, 0, 0, 0), (173, 2, 0, 1, 0, 0), (174, 30, 73, 11, 18, 0), (177, 2, 0, 1, 0, 0), (178, 30, 99, 11, 12, 0), (181, 0, 1, 0, 0, 0), (182, 33, 0, 0, 0, 0), (183, 2, 0, 1, 0, 0), (184, 30, 74, 11, 20, 0), (187, 2, 0, 1, 0, 0), (188, 30, 100, 11, 19, 0), (191, 2, 0, 1, 0, 0), (192, 30, 99, 11, 12, 0), (195, 33, 0, 0, 0, 0), (196, 2, 0, 1, 0, 0), (197, 24, 0, 0, 0, 0), (198, 30, 100, 11, 19, 0), (201, 0, 1, 0, 0, 1), (202, 8, 0, 0, 0, 0), (203, 31, 100, 11, 19, 0), (206, 2, 0, 1, 0, 0), (207, 24, 0, 0, 0, 0), (208, 30, 99, 11, 12, 0), (211, 0, 1, 0, 0, 1), (212, 8, 0, 0, 0, 0), (213, 31, 99, 11, 12, 0), (216, 2, 0, 1, 0, 0), (217, 30, 99, 11, 12, 0), (220, 0, 1, 0, 0, 1), (221, 9, 0, 0, 0, 0), (222, 51, 0, 0, 0, 0)]
def e_in_224 : List (Nat × Instr × Nat) := [(0, .iload_n 1, 1), (1, .i2l, 1), (2, .lconst 0, 1), (3, .aload_n 0, 1), (4, .getfield 123, 3), (7, .iconst 1, 1), (8, .isub, 1), (9, .i2l, 1), (10, .invokestatic 136, 3), (13, .ifCond .eq 12, 3), (16, .aload_n 0, 1), (17, .getfield 38, 3), (20, .iload_n 1, 1), (21, .iaload, 1), (22, .goto 4, 3), (25, .iconst (-1), 1), (26, .ireturn, 1)]
/-- EvenWheelModel.waits(I)I -/
def e_pg_224 : List (Nat × e_PI) := [(0, 1, 1, 1, 0, 0), (1, 19, 0, 0, 0, 0), (2, 23, 1, 0, 0, 0), (3, 2, 0, 1, 0, 0), (4, 30, 100, 11, 19, 0), (7, 0, 1, 0, 0, 1), (8, 9, 0, 0, 0, 0), (9, 19, 0, 0, 0, 0), (10, 44, 5647, 193, 3, 0), (13, 28, 0, 25, 0, 0), (16, 2, 0, 1, 0, 0), (17, 30, 74, 11, 20, 0), (20, 1, 1, 1, 0, 0), (21, 32, 0, 0, 0, 0), (22, 27, 26, 0, 0, 0), (25, 0, 1, 0, 0, -1), (26, 51, 0, 0, 0, 0)]
def e_in_225 : List (Nat × Instr × Nat) := [(0, .aload_n 0, 1), (1, .iconst 0, 1), (2, .invokevirtual 156, 3), (5, .istore_n 2, 1), (6, .aload_n 0, 1), (7, .iload_n 2, 1), (8, .invokevirtual 153, 3), (11, .aload_n 0, 1), (12, .getfield 19, 3), (15, .iload_n 1, 1), (16, .iaload, 1), (17, .iadd, 1), (18, .bipush 6, 2), (20, .if_icmp .le 5, 3), (23, .iconst 0, 1), (24, .ireturn, 1), (25, .aload_n 0, 1), (26, .getfield 13, 3), (29, .iload_n 2, 1), (30, .iaload, 1), (31, .ifCond .le 25, 3), (34, .aload_n 0, 1), (35, .iload_n 2, 1), (36, .invokevirtual 182, 3), (39, .ifCond .ne 15, 3), (42, .aload_n 0, 1), (43, .getfield 25, 3), (46, .iload_n 1, 1), (47, .iaload, 1), (48, .iconst 2, 1), (49, .irem, 1), (50, .iconst 1, 1), (51, .if_icmp .ne 5, 3), (54, .iconst 0, 1), (55, .ireturn, 1), (56, .aload_n 0, 1), (57, .getfield 16, 3), (60, .iload_n 2, 1), (61, .dup2, 1), (62, .iaload, 1), (63, .aload_n 0, 1), (64, .getfield 22, 3), (67, .iload_n 1, 1), (68, .iaload, 1), (69, .iadd, 1), (70, .iastore, 1), (71, .aload_n 0, 1), (72, .invokevirtual 175, 3), (75, .aload_n 0, 1), (76, .getfield 87, 3), (79, .if_icmp .gt 7, 3), (82, .iconst 1, 1), (83, .goto 4, 3), (86, .iconst 0, 1), (87, .istore_n 3, 1), (88, .aload_n 0, 1), (89, .getfield 16, 3), (92, .iload_n 2, 1), (93, .dup2, 1), (94, .iaload, 1), (95, .aload_n 0, 1), (96, .getfield 22, 3), (99, .iload_n 1, 1), (100, .iaload, 1), (101, .isub, 1), (102, .iastore, 1), (103, .iload_n 3, 1), (104, .ireturn, 1)]
/-- EvenWheelModel.mayBoard(I)Z -/
def e_pg_225 : List (Nat × e_PI) := [(0, 2, 0, 1, 0, 0), (1, 0, 1, 0, 0, 0), (2, 44, 5739, 203, 2, 0), (5, 4, 2, 1, 0, 0), (6, 2, 0, 1, 0, 0), (7, 1, 2, 1, 0, 0), (8, 44, 5723, 204, 2, 0), (11, 2, 0, 1, 0, 0), (12, 30, 68, 11, 13, 0), (15, 1, 1, 1, 0, 0), (16, 32, 0, 0, 0, 0), (17, 8, 0, 0, 0, 0), (18, 0, 2, 0, 0, 6), (20, 29, 5, 25, 0, 0), (23, 0, 1, 0, 0, 0), (24, 52, 0, 0, 0, 0), (25, 2, 0, 1, 0, 0), (26, 30, 66, 11, 10, 0), (29, 1, 2, 1, 0, 0), (30, 32, 0, 0, 0, 0), (31, 28, 5, 56, 0, 0), (34, 2, 0, 1, 0, 0), (35, 1, 2, 1, 0, 0), (36, 44, 5803, 214, 2, 0), (39, 28, 1, 54, 0, 0), (42, 2, 0, 1, 0, 0), (43, 30, 70, 11, 15, 0), (46, 1, 1, 1, 0, 0), (47, 32, 0, 0, 0, 0), (48, 0, 1, 0, 0, 2), (49, 13, 0, 0, 0, 0), (50, 0, 1, 0, 0, 1), (51, 29, 1, 56, 0, 0), (54, 0, 1, 0, 0, 0), (55, 52, 0, 0, 0, 0), (56, 2, 0, 1, 0, 0), (57, 30, 67, 11, 11, 0), (60, 1, 2, 1, 0, 0), (61, 25, 0, 0, 0, 0), (62, 32, 0, 0, 0, 0), (63, 2, 0, 1, 0, 0), (64, 30, 69, 11, 14, 0), (67, 1, 1, 1, 0, 0), (68, 32, 0, 0, 0, 0), (69, 8, 0, 0, 0, 0), (70, 33, 0, 0, 0, 0), (71, 2, 0, 1, 0, 0), (72, 44, 5771, 202, 1, 0), (75, 2, 0, 1, 0, 0), (76, 30, 90, 11, 4, 0), (79, 29, 4, 86, 0, 0), (82, 0, 1, 0, 0, 1), (83, 27, 87, 0, 0, 0), (86, 0, 1, 0, 0, 0), (87, 4, 3, 1, 0, 0), (88, 2, 0, 1, 0, 0), (89, 30, 67, 11, 11, 0), (92, 1, 2, 1, 0, 0), (93, 25, 0, 0, 0, 0), (94, 32, 0, 0, 0, 0), (95, 2, 0, 1, 0, 0), (96, 30, 69, 11, 14, 0), (99, 1, 1, 1, 0, 0), (100, 32, 0, 0, 0, 0), (101, 9, 0, 0, 0, 0), (102, 33, 0, 0, 0, 0), (103, 1, 3, 1, 0, 0), (104, 52, 0, 0, 0, 0)]
def e_in_226 : List (Nat × Instr × Nat) := [(0, .iload_n 1, 1), (1, .i2l, 1), (2, .lconst 0, 1), (3, .aload_n 0, 1), (4, .getfield 123, 3), (7, .iconst 1, 1), (8, .isub, 1), (9, .i2l, 1), (10, .invokestatic 136, 3), (13, .ifCond .ne 8, 3), (16, .bipush (-101), 2), (18, .goto 21, 3), (21, .aload_n 0, 1), (22, .aload_n 0, 1), (23, .getfield 38, 3), (26, .iload_n 1, 1), (27, .iaload, 1), (28, .invokevirtual 203, 3), (31, .ifCond .eq 7, 3), (34, .iconst 1, 1), (35, .goto 4, 3), (38, .iconst 0, 1), (39, .ireturn, 1)]
/-- EvenWheelModel.may(I)I -/
def e_pg_226 : List (Nat × e_PI) := [(0, 1, 1, 1, 0, 0), (1, 19, 0, 0, 0, 0), (2, 23, 1, 0, 0, 0), (3, 2, 0, 1, 0, 0), (4, 30, 100, 11, 19, 0), (7, 0, 1, 0, 0, 1), (8, 9, 0, 0, 0, 0), (9, 19, 0, 0, 0, 0), (10, 44, 5647, 193, 3, 0), (13, 28, 1, 21, 0, 0), (16, 0, 2, 0, 0, -101), (18, 27, 39, 0, 0, 0), (21, 2, 0, 1, 0, 0), (22, 2, 0, 1, 0, 0), (23, 30, 74, 11, 20, 0), (26, 1, 1, 1, 0, 0), (27, 32, 0, 0, 0, 0), (28, 44, 5867, 225, 2, 0), (31, 28, 0, 38, 0, 0), (34, 0, 1, 0, 0, 1), (35, 27, 39, 0, 0, 0), (38, 0, 1, 0, 0, 0), (39, 51, 0, 0, 0, 0)]
def e_in_227 : List (Nat × Instr × Nat) := [(0, .aload_n 0, 1), (1, .dup, 1), (2, .getfield 123, 3), (5, .iconst 1, 1), (6, .isub, 1), (7, .putfield 123, 3), (10, .iload_n 1, 1), (11, .istore_n 2, 1), (12, .iload_n 2, 1), (13, .aload_n 0, 1), (14, .getfield 123, 3), (17, .if_icmp .ge 23, 3), (20, .aload_n 0, 1), (21, .getfield 38, 3), (24, .iload_n 2, 1), (25, .aload_n 0, 1), (26, .getfield 38, 3), (29, .iload_n 2, 1), (30, .iconst 1, 1), (31, .iadd, 1), (32, .iaload, 1), (33, .iastore, 1), (34, .iinc 2 1, 3), (37, .goto (-25), 3), (40, .return_, 1)]
/-- EvenWheelModel.takeOut(I)V -/
def e_pg_227 : List (Nat × e_PI) := [(0, 2, 0, 1, 0, 0), (1, 24, 0, 0, 0, 0), (2, 30, 100, 11, 19, 0), (5, 0, 1, 0, 0, 1), (6, 9, 0, 0, 0, 0), (7, 31, 100, 11, 19, 0), (10, 1, 1, 1, 0, 0), (11, 4, 2, 1, 0, 0), (12, 1, 2, 1, 0, 0), (13, 2, 0, 1, 0, 0), (14, 30, 100, 11, 19, 0), (17, 29, 3, 40, 0, 0), (20, 2, 0, 1, 0, 0), (21, 30, 74, 11, 20, 0), (24, 1, 2, 1, 0, 0), (25, 2, 0, 1, 0, 0), (26, 30, 74, 11, 20, 0), (29, 1, 2, 1, 0, 0), (30, 0, 1, 0, 0, 1), (31, 8, 0, 0, 0, 0), (32, 32, 0, 0, 0, 0), (33, 33, 0, 0, 0, 0), (34, 7, 2, 0, 0, 1), (37, 27, 12, 0, 0, 0), (40, 50, 0, 0, 0, 0)]
def e_in_228 : List (Nat × Instr × Nat) := [(0, .iconst 0, 1), (1, .istore_n 1, 1), (2, .iload_n 1, 1), (3, .aload_n 0, 1), (4, .getfield 123, 3), (7, .if_icmp .ge 129, 3), (10, .aload_n 0, 1), (11, .getfield 38, 3), (14, .iload_n 1, 1), (15, .iaload, 1), (16, .istore_n 2, 1), (17, .aload_n 0, 1), (18, .iload_n 2, 1), (19, .invokevirtual 203, 3), (22, .ifCond .eq 93, 3), (25, .iconst 0, 1), (26, .istore_n 3, 1), (27, .iload_n 3, 1), (28, .iload_n 1, 1), (29, .if_icmp .ge 24, 3), (32, .aload_n 0, 1), (33, .getfield 35, 3), (36, .aload_n 0, 1), (37, .getfield 38, 3), (40, .iload_n 3, 1), (41, .iaload, 1), (42, .dup2, 1), (43, .iaload, 1), (44, .iconst 1, 1), (45, .iadd, 1), (46, .iastore, 1), (47, .iinc 3 1, 3), (50, .goto (-23), 3), (53, .aload_n 0, 1), (54, .iload_n 1, 1), (55, .invokevirtual 206, 3), (58, .aload_n 0, 1), (59, .iconst 0, 1), (60, .invokevirtual 156, 3), (63, .istore_n 3, 1), (64, .aload_n 0, 1), (65, .getfield 7, 3), (68, .bipush 6, 2), (70, .iload_n 3, 1), (71, .imul, 1), (72, .aload_n 0, 1), (73, .getfield 13, 3), (76, .iload_n 3, 1), (77, .iaload, 1), (78, .iadd, 1), (79, .iload_n 2, 1), (80, .iastore, 1), (81, .aload_n 0, 1), (82, .getfield 13, 3), (85, .iload_n 3, 1), (86, .dup2, 1), (87, .iaload, 1), (88, .iconst 1, 1), (89, .iadd, 1), (90, .iastore, 1), (91, .aload_n 0, 1), (92, .getfield 16, 3), (95, .iload_n 3, 1), (96, .dup2, 1), (97, .iaload, 1), (98, .aload_n 0, 1), (99, .getfield 22, 3), (102, .iload_n 2, 1), (103, .iaload, 1), (104, .iadd, 1), (105, .iastore, 1), (106, .aload_n 0, 1), (107, .getfield 28, 3), (110, .iload_n 2, 1), (111, .iload_n 3, 1), (112, .iastore, 1), (113, .iload_n 2, 1), (114, .ireturn, 1), (115, .aload_n 0, 1), (116, .getfield 35, 3), (119, .iload_n 2, 1), (120, .iaload, 1), (121, .aload_n 0, 1), (122, .getfield 97, 3), (125, .if_icmp .lt 5, 3), (128, .iconst (-1), 1), (129, .ireturn, 1), (130, .iinc 1 1, 3), (133, .goto (-131), 3), (136, .iconst (-1), 1), (137, .ireturn, 1)]
/-- EvenWheelModel.board()I -/
def e_pg_228 : List (Nat × e_PI) := [(0, 0, 1, 0, 0, 0), (1, 4, 1, 1, 0, 0), (2, 1, 1, 1, 0, 0), (3, 2, 0, 1, 0, 0), (4, 30, 100, 11, 19, 0), (7, 29, 3, 136, 0, 0), (10, 2, 0, 1, 0, 0), (11, 30, 74, 11, 20, 0), (14, 1, 1, 1, 0, 0), (15, 32, 0, 0, 0, 0), (16, 4, 2, 1, 0, 0), (17, 2, 0, 1, 0, 0), (18, 1, 2, 1, 0, 0), (19, 44, 5867, 225, 2, 0), (22, 28, 0, 115, 0, 0), (25, 0, 1, 0, 0, 0), (26, 4, 3, 1, 0, 0), (27, 1, 3, 1, 0, 0), (28, 1, 1, 1, 0, 0), (29, 29, 3, 53, 0, 0), (32, 2, 0, 1, 0, 0), (33, 30, 73, 11, 18, 0), (36, 2, 0, 1, 0, 0), (37, 30, 74, 11, 20, 0), (40, 1, 3, 1, 0, 0), (41, 32, 0, 0, 0, 0), (42, 25, 0, 0, 0, 0), (43, 32, 0, 0, 0, 0), (44, 0, 1, 0, 0, 1), (45, 8, 0, 0, 0, 0), (46, 33, 0, 0, 0, 0), (47, 7, 3, 0, 0, 1), (50, 27, 27, 0, 0, 0), (53, 2, 0, 1, 0, 0), (54, 1, 1, 1, 0, 0), (55, 44, 5883, 227, 2, 0), (58, 2, 0, 1, 0, 0), (59, 0, 1, 0, 0, 0), (60, 44, 5739, 203, 2, 0), (63, 4, 3, 1, 0, 0), (64, 2, 0, 1, 0, 0), (65, 30, 65, 11, 9, 0), (68, 0, 2, 0, 0, 6), (70, 1, 3, 1, 0, 0), (71, 10, 0, 0, 0, 0), (72, 2, 0, 1, 0, 0), (73, 30, 66, 11, 10, 0), (76, 1, 3, 1, 0, 0), (77, 32, 0, 0, 0, 0), (78, 8, 0, 0, 0, 0), (79, 1, 2, 1, 0, 0), (80, 33, 0, 0, 0, 0), (81, 2, 0, 1, 0, 0), (82, 30, 66, 11, 10, 0), (85, 1, 3, 1, 0, 0), (86, 25, 0, 0, 0, 0), (87, 32, 0, 0, 0, 0), (88, 0, 1, 0, 0, 1), (89, 8, 0, 0, 0, 0), (90, 33, 0, 0, 0, 0), (91, 2, 0, 1, 0, 0), (92, 30, 67, 11, 11, 0), (95, 1, 3, 1, 0, 0), (96, 25, 0, 0, 0, 0), (97, 32, 0, 0, 0, 0), (98, 2, 0, 1, 0, 0), (99, 30, 69, 11, 14, 0), (102, 1, 2, 1, 0, 0), (103, 32, 0, 0, 0, 0), (104, 8, 0, 0, 0, 0), (105, 33, 0, 0, 0, 0), (106, 2, 0, 1, 0, 0), (107, 30, 71, 11, 16, 0), (110, 1, 2, 1, 0, 0), (111, 1, 3, 1, 0, 0), (112, 33, 0, 0, 0, 0), (113, 1, 2, 1, 0, 0), (114, 51, 0, 0, 0, 0), (115, 2, 0, 1, 0, 0), (116, 30, 73, 11, 18, 0), (119, 1, 2, 1, 0, 0), (120, 32, 0, 0, 0, 0), (121, 2, 0, 1, 0, 0), (122, 30, 93, 11, 7, 0), (125, 29, 2, 130, 0, 0), (128, 0, 1, 0, 0, -1), (129, 51, 0, 0, 0, 0), (130, 7, 1, 0, 0, 1), (133, 27, 2, 0, 0, 0), (136, 0, 1, 0, 0, -1), (137, 51, 0, 0, 0, 0)]
def e_in_229 : List (Nat × Instr × Nat) := [(0, .aload_n 0, 1), (1, .invokevirtual 209, 3), (4, .ireturn, 1)]
/-- EvenWheelModel.next()I -/
def e_pg_229 : List (Nat × e_PI) := [(0, 2, 0, 1, 0, 0), (1, 44, 5899, 228, 1, 0), (4, 51, 0, 0, 0, 0)]
def e_in_230 : List (Nat × Instr × Nat) := [(0, .iconst 0, 1), (1, .istore_n 1, 1), (2, .aload_n 0, 1), (3, .invokevirtual 209, 3), (6, .iconst (-1), 1), (7, .if_icmp .eq 9, 3), (10, .iinc 1 1, 3), (13, .goto (-11), 3), (16, .iload_n 1, 1), (17, .ireturn, 1)]
/-- EvenWheelModel.fill()I -/
def e_pg_230 : List (Nat × e_PI) := [(0, 0, 1, 0, 0, 0), (1, 4, 1, 1, 0, 0), (2, 2, 0, 1, 0, 0), (3, 44, 5899, 228, 1, 0), (6, 0, 1, 0, 0, -1), (7, 29, 0, 16, 0, 0), (10, 7, 1, 0, 0, 1), (13, 27, 2, 0, 0, 0), (16, 1, 1, 1, 0, 0), (17, 51, 0, 0, 0, 0)]
def e_in_231 : List (Nat × Instr × Nat) := [(0, .iload_n 1, 1), (1, .i2l, 1), (2, .lconst 0, 1), (3, .aload_n 0, 1), (4, .getfield 123, 3), (7, .iconst 1, 1), (8, .isub, 1), (9, .i2l, 1), (10, .invokestatic 136, 3), (13, .ifCond .ne 6, 3), (16, .bipush (-101), 2), (18, .ireturn, 1), (19, .aload_n 0, 1), (20, .getfield 38, 3), (23, .iload_n 1, 1), (24, .iaload, 1), (25, .istore_n 2, 1), (26, .aload_n 0, 1), (27, .iload_n 1, 1), (28, .invokevirtual 206, 3), (31, .aload_n 0, 1), (32, .getfield 28, 3), (35, .iload_n 2, 1), (36, .bipush 101, 2), (38, .iastore, 1), (39, .iload_n 2, 1), (40, .ireturn, 1)]
/-- EvenWheelModel.tire(I)I -/
def e_pg_231 : List (Nat × e_PI) := [(0, 1, 1, 1, 0, 0), (1, 19, 0, 0, 0, 0), (2, 23, 1, 0, 0, 0), (3, 2, 0, 1, 0, 0), (4, 30, 100, 11, 19, 0), (7, 0, 1, 0, 0, 1), (8, 9, 0, 0, 0, 0), (9, 19, 0, 0, 0, 0), (10, 44, 5647, 193, 3, 0), (13, 28, 1, 19, 0, 0), (16, 0, 2, 0, 0, -101), (18, 51, 0, 0, 0, 0), (19, 2, 0, 1, 0, 0), (20, 30, 74, 11, 20, 0), (23, 1, 1, 1, 0, 0), (24, 32, 0, 0, 0, 0), (25, 4, 2, 1, 0, 0), (26, 2, 0, 1, 0, 0), (27, 1, 1, 1, 0, 0), (28, 44, 5883, 227, 2, 0), (31, 2, 0, 1, 0, 0), (32, 30, 71, 11, 16, 0), (35, 1, 2, 1, 0, 0), (36, 0, 2, 0, 0, 101), (38, 33, 0, 0, 0, 0), (39, 1, 2, 1, 0, 0), (40, 51, 0, 0, 0, 0)]
def e_in_232 : List (Nat × Instr × Nat) := [(0, .aload_n 0, 1), (1, .iconst 0, 1), (2, .invokevirtual 156, 3), (5, .istore_n 2, 1), (6, .iload_n 1, 1), (7, .i2l, 1), (8, .lconst 0, 1), (9, .aload_n 0, 1), (10, .getfield 120, 3), (13, .iconst 1, 1), (14, .isub, 1), (15, .i2l, 1), (16, .invokestatic 136, 3), (19, .ifCond .eq 13, 3), (22, .aload_n 0, 1), (23, .getfield 28, 3), (26, .iload_n 1, 1), (27, .iaload, 1), (28, .iload_n 2, 1), (29, .if_icmp .eq 6, 3), (32, .bipush (-101), 2), (34, .ireturn, 1), (35, .aload_n 0, 1), (36, .invokevirtual 175, 3), (39, .istore_n 3, 1), (40, .aload_n 0, 1), (41, .getfield 16, 3), (44, .iload_n 2, 1), (45, .dup2, 1), (46, .iaload, 1), (47, .aload_n 0, 1), (48, .getfield 22, 3), (51, .iload_n 1, 1), (52, .iaload, 1), (53, .isub, 1), (54, .iastore, 1), (55, .aload_n 0, 1), (56, .invokevirtual 175, 3), (59, .istore 4, 2), (61, .iload 4, 2), (63, .aload_n 0, 1), (64, .getfield 87, 3), (67, .if_icmp .le 27, 3), (70, .iload 4, 2), (72, .iload_n 3, 1), (73, .if_icmp .lt 21, 3), (76, .aload_n 0, 1), (77, .getfield 16, 3), (80, .iload_n 2, 1), (81, .dup2, 1), (82, .iaload, 1), (83, .aload_n 0, 1), (84, .getfield 22, 3), (87, .iload_n 1, 1), (88, .iaload, 1), (89, .iadd, 1), (90, .iastore, 1), (91, .bipush (-103), 2), (93, .ireturn, 1), (94, .iconst 0, 1), (95, .istore 5, 2), (97, .aload_n 0, 1), (98, .getfield 7, 3), (101, .bipush 6, 2), (103, .iload_n 2, 1), (104, .imul, 1), (105, .iload 5, 2), (107, .iadd, 1), (108, .iaload, 1), (109, .iload_n 1, 1), (110, .if_icmp .eq 9, 3), (113, .iinc 5 1, 3), (116, .goto (-19), 3), (119, .aload_n 0, 1), (120, .getfield 13, 3), (123, .iload_n 2, 1), (124, .dup2, 1), (125, .iaload, 1), (126, .iconst 1, 1), (127, .isub, 1), (128, .iastore, 1), (129, .iload 5, 2), (131, .aload_n 0, 1), (132, .getfield 13, 3), (135, .iload_n 2, 1), (136, .iaload, 1), (137, .if_icmp .ge 35, 3), (140, .aload_n 0, 1), (141, .getfield 7, 3), (144, .bipush 6, 2), (146, .iload_n 2, 1), (147, .imul, 1), (148, .iload 5, 2), (150, .iadd, 1), (151, .aload_n 0, 1), (152, .getfield 7, 3), (155, .bipush 6, 2), (157, .iload_n 2, 1), (158, .imul, 1), (159, .iload 5, 2), (161, .iadd, 1), (162, .iconst 1, 1), (163, .iadd, 1), (164, .iaload, 1), (165, .iastore, 1), (166, .iinc 5 1, 3), (169, .goto (-40), 3), (172, .aload_n 0, 1), (173, .getfield 28, 3), (176, .iload_n 1, 1), (177, .bipush 101, 2), (179, .iastore, 1), (180, .aload_n 0, 1), (181, .getfield 19, 3), (184, .iload_n 1, 1), (185, .iaload, 1), (186, .ireturn, 1)]
/-- EvenWheelModel.leave(I)I -/
def e_pg_232 : List (Nat × e_PI) := [(0, 2, 0, 1, 0, 0), (1, 0, 1, 0, 0, 0), (2, 44, 5739, 203, 2, 0), (5, 4, 2, 1, 0, 0), (6, 1, 1, 1, 0, 0), (7, 19, 0, 0, 0, 0), (8, 23, 1, 0, 0, 0), (9, 2, 0, 1, 0, 0), (10, 30, 99, 11, 12, 0), (13, 0, 1, 0, 0, 1), (14, 9, 0, 0, 0, 0), (15, 19, 0, 0, 0, 0), (16, 44, 5647, 193, 3, 0), (19, 28, 0, 32, 0, 0), (22, 2, 0, 1, 0, 0), (23, 30, 71, 11, 16, 0), (26, 1, 1, 1, 0, 0), (27, 32, 0, 0, 0, 0), (28, 1, 2, 1, 0, 0), (29, 29, 0, 35, 0, 0), (32, 0, 2, 0, 0, -101), (34, 51, 0, 0, 0, 0), (35, 2, 0, 1, 0, 0), (36, 44, 5771, 202, 1, 0), (39, 4, 3, 1, 0, 0), (40, 2, 0, 1, 0, 0), (41, 30, 67, 11, 11, 0), (44, 1, 2, 1, 0, 0), (45, 25, 0, 0, 0, 0), (46, 32, 0, 0, 0, 0), (47, 2, 0, 1, 0, 0), (48, 30, 69, 11, 14, 0), (51, 1, 1, 1, 0, 0), (52, 32, 0, 0, 0, 0), (53, 9, 0, 0, 0, 0), (54, 33, 0, 0, 0, 0), (55, 2, 0, 1, 0, 0), (56, 44, 5771, 202, 1, 0), (59, 4, 4, 2, 0, 0), (61, 1, 4, 2, 0, 0), (63, 2, 0, 1, 0, 0), (64, 30, 90, 11, 4, 0), (67, 29, 5, 94, 0, 0), (70, 1, 4, 2, 0, 0), (72, 1, 3, 1, 0, 0), (73, 29, 2, 94, 0, 0), (76, 2, 0, 1, 0, 0), (77, 30, 67, 11, 11, 0), (80, 1, 2, 1, 0, 0), (81, 25, 0, 0, 0, 0), (82, 32, 0, 0, 0, 0), (83, 2, 0, 1, 0, 0), (84, 30, 69, 11, 14, 0), (87, 1, 1, 1, 0, 0), (88, 32, 0, 0, 0, 0), (89, 8, 0, 0, 0, 0), (90, 33, 0, 0, 0, 0), (91, 0, 2, 0, 0, -103), (93, 51, 0, 0, 0, 0), (94, 0, 1, 0, 0, 0), (95, 4, 5, 2, 0, 0), (97, 2, 0, 1, 0, 0), (98, 30, 65, 11, 9, 0), (101, 0, 2, 0, 0, 6), (103, 1, 2, 1, 0, 0), (104, 10, 0, 0, 0, 0), (105, 1, 5, 2, 0, 0), (107, 8, 0, 0, 0, 0), (108, 32, 0, 0, 0, 0), (109, 1, 1, 1, 0, 0), (110, 29, 0, 119, 0, 0), (113, 7, 5, 0, 0, 1), (116, 27, 97, 0, 0, 0), (119, 2, 0, 1, 0, 0), (120, 30, 66, 11, 10, 0), (123, 1, 2, 1, 0, 0), (124, 25, 0, 0, 0, 0), (125, 32, 0, 0, 0, 0), (126, 0, 1, 0, 0, 1), (127, 9, 0, 0, 0, 0), (128, 33, 0, 0, 0, 0), (129, 1, 5, 2, 0, 0), (131, 2, 0, 1, 0, 0), (132, 30, 66, 11, 10, 0), (135, 1, 2, 1, 0, 0), (136, 32, 0, 0, 0, 0), (137, 29, 3, 172, 0, 0), (140, 2, 0, 1, 0, 0), (141, 30, 65, 11, 9, 0), (144, 0, 2, 0, 0, 6), (146, 1, 2, 1, 0, 0), (147, 10, 0, 0, 0, 0), (148, 1, 5, 2, 0, 0), (150, 8, 0, 0, 0, 0), (151, 2, 0, 1, 0, 0), (152, 30, 65, 11, 9, 0), (155, 0, 2, 0, 0, 6), (157, 1, 2, 1, 0, 0), (158, 10, 0, 0, 0, 0), (159, 1, 5, 2, 0, 0), (161, 8, 0, 0, 0, 0), (162, 0, 1, 0, 0, 1), (163, 8, 0, 0, 0, 0), (164, 32, 0, 0, 0, 0), (165, 33, 0, 0, 0, 0), (166, 7, 5, 0, 0, 1), (169, 27, 129, 0, 0, 0), (172, 2, 0, 1, 0, 0), (173, 30, 71, 11, 16, 0), (176, 1, 1, 1, 0, 0), (177, 0, 2, 0, 0, 101), (179, 33, 0, 0, 0, 0), (180, 2, 0, 1, 0, 0), (181, 30, 68, 11, 13, 0), (184, 1, 1, 1, 0, 0), (185, 32, 0, 0, 0, 0), (186, 51, 0, 0, 0, 0)]
def e_in_233 : List (Nat × Instr × Nat) := [(0, .iload_n 2, 1), (1, .tableswitch 89 0 5 #[39, 46, 53, 60, 67, 82], 39), (40, .aload_n 0, 1), (41, .getfield 19, 3), (44, .iload_n 1, 1), (45, .iaload, 1), (46, .ireturn, 1), (47, .aload_n 0, 1), (48, .getfield 22, 3), (51, .iload_n 1, 1), (52, .iaload, 1), (53, .ireturn, 1), (54, .aload_n 0, 1), (55, .getfield 25, 3), (58, .iload_n 1, 1), (59, .iaload, 1), (60, .ireturn, 1), (61, .aload_n 0, 1), (62, .getfield 28, 3), (65, .iload_n 1, 1), (66, .iaload, 1), (67, .ireturn, 1), (68, .aload_n 0, 1), (69, .getfield 31, 3), (72, .iload_n 1, 1), (73, .baload, 1), (74, .ifCond .eq 7, 3), (77, .iconst 1, 1), (78, .goto 4, 3), (81, .iconst 0, 1), (82, .ireturn, 1), (83, .aload_n 0, 1), (84, .getfield 35, 3), (87, .iload_n 1, 1), (88, .iaload, 1), (89, .ireturn, 1), (90, .bipush (-102), 2), (92, .ireturn, 1)]
/-- EvenWheelModel.partyOf(II)I -/
def e_pg_233 : List (Nat × e_PI) := [(0, 1, 2, 1, 0, 0), (1, 47, 6, 0, 0, 0), (40, 2, 0, 1, 0, 0), (41, 30, 68, 11, 13, 0), (44, 1, 1, 1, 0, 0), (45, 32, 0, 0, 0, 0), (46, 51, 0, 0, 0, 0), (47, 2, 0, 1, 0, 0), (48, 30, 69, 11, 14, 0), (51, 1, 1, 1, 0, 0), (52, 32, 0, 0, 0, 0), (53, 51, 0, 0, 0, 0), (54, 2, 0, 1, 0, 0), (55, 30, 70, 11, 15, 0), (58, 1, 1, 1, 0, 0), (59, 32, 0, 0, 0, 0), (60, 51, 0, 0, 0, 0), (61, 2, 0, 1, 0, 0), (62, 30, 71, 11, 16, 0), (65, 1, 1, 1, 0, 0), (66, 32, 0, 0, 0, 0), (67, 51, 0, 0, 0, 0), (68, 2, 0, 1, 0, 0), (69, 30, 72, 11, 17, 0), (72, 1, 1, 1, 0, 0), (73, 34, 0, 0, 0, 0), (74, 28, 0, 81, 0, 0), (77, 0, 1, 0, 0, 1), (78, 27, 82, 0, 0, 0), (81, 0, 1, 0, 0, 0), (82, 51, 0, 0, 0, 0), (83, 2, 0, 1, 0, 0), (84, 30, 73, 11, 18, 0), (87, 1, 1, 1, 0, 0), (88, 32, 0, 0, 0, 0), (89, 51, 0, 0, 0, 0), (90, 0, 2, 0, 0, -102), (92, 51, 0, 0, 0, 0)]
def e_in_234 : List (Nat × Instr × Nat) := [(0, .iload_n 1, 1), (1, .i2l, 1), (2, .lconst 0, 1), (3, .aload_n 0, 1), (4, .getfield 120, 3), (7, .iconst 1, 1), (8, .isub, 1), (9, .i2l, 1), (10, .invokestatic 136, 3), (13, .ifCond .eq 12, 3), (16, .aload_n 0, 1), (17, .iload_n 1, 1), (18, .iload_n 2, 1), (19, .invokevirtual 212, 3), (22, .goto 5, 3), (25, .bipush (-101), 2), (27, .ireturn, 1)]
/-- EvenWheelModel.party(II)I -/
def e_pg_234 : List (Nat × e_PI) := [(0, 1, 1, 1, 0, 0), (1, 19, 0, 0, 0, 0), (2, 23, 1, 0, 0, 0), (3, 2, 0, 1, 0, 0), (4, 30, 99, 11, 12, 0), (7, 0, 1, 0, 0, 1), (8, 9, 0, 0, 0, 0), (9, 19, 0, 0, 0, 0), (10, 44, 5647, 193, 3, 0), (13, 28, 0, 25, 0, 0), (16, 2, 0, 1, 0, 0), (17, 1, 1, 1, 0, 0), (18, 1, 2, 1, 0, 0), (19, 44, 5915, 233, 3, 0), (22, 27, 27, 0, 0, 0), (25, 0, 2, 0, 0, -101), (27, 51, 0, 0, 0, 0)]
def e_in_235 : List (Nat × Instr × Nat) := [(0, .aload_n 0, 1), (1, .iconst 0, 1), (2, .putfield 216, 3), (5, .iconst 0, 1), (6, .istore_n 1, 1), (7, .iload_n 1, 1), (8, .aload_n 0, 1), (9, .getfield 108, 3), (12, .if_icmp .ge 50, 3), (15, .aload_n 0, 1), (16, .getfield 41, 3), (19, .iload_n 1, 1), (20, .aload_n 0, 1), (21, .getfield 16, 3), (24, .iload_n 1, 1), (25, .iaload, 1), (26, .iastore, 1), (27, .aload_n 0, 1), (28, .getfield 16, 3), (31, .iload_n 1, 1), (32, .iaload, 1), (33, .ifCond .le 23, 3), (36, .aload_n 0, 1), (37, .getfield 44, 3), (40, .aload_n 0, 1), (41, .getfield 216, 3), (44, .iload_n 1, 1), (45, .iastore, 1), (46, .aload_n 0, 1), (47, .dup, 1), (48, .getfield 216, 3), (51, .iconst 1, 1), (52, .iadd, 1), (53, .putfield 216, 3), (56, .iinc 1 1, 3), (59, .goto (-52), 3), (62, .return_, 1)]
/-- EvenWheelModel.findLoaded()V -/
def e_pg_235 : List (Nat × e_PI) := [(0, 2, 0, 1, 0, 0), (1, 0, 1, 0, 0, 0), (2, 31, 103, 11, 24, 0), (5, 0, 1, 0, 0, 0), (6, 4, 1, 1, 0, 0), (7, 1, 1, 1, 0, 0), (8, 2, 0, 1, 0, 0), (9, 30, 95, 11, 0, 0), (12, 29, 3, 62, 0, 0), (15, 2, 0, 1, 0, 0), (16, 30, 75, 11, 22, 0), (19, 1, 1, 1, 0, 0), (20, 2, 0, 1, 0, 0), (21, 30, 67, 11, 11, 0), (24, 1, 1, 1, 0, 0), (25, 32, 0, 0, 0, 0), (26, 33, 0, 0, 0, 0), (27, 2, 0, 1, 0, 0), (28, 30, 67, 11, 11, 0), (31, 1, 1, 1, 0, 0), (32, 32, 0, 0, 0, 0), (33, 28, 5, 56, 0, 0), (36, 2, 0, 1, 0, 0), (37, 30, 76, 11, 23, 0), (40, 2, 0, 1, 0, 0), (41, 30, 103, 11, 24, 0), (44, 1, 1, 1, 0, 0), (45, 33, 0, 0, 0, 0), (46, 2, 0, 1, 0, 0), (47, 24, 0, 0, 0, 0), (48, 30, 103, 11, 24, 0), (51, 0, 1, 0, 0, 1), (52, 8, 0, 0, 0, 0), (53, 31, 103, 11, 24, 0), (56, 7, 1, 0, 0, 1), (59, 27, 7, 0, 0, 0), (62, 50, 0, 0, 0, 0)]
def e_in_236 : List (Nat × Instr × Nat) := [(0, .aload_n 0, 1), (1, .getfield 111, 3), (4, .istore_n 1, 1), (5, .aload_n 0, 1), (6, .iconst 0, 1), (7, .putfield 219, 3), (10, .aload_n 0, 1), (11, .iconst 0, 1), (12, .putfield 222, 3), (15, .iconst 0, 1), (16, .istore_n 2, 1), (17, .iload_n 2, 1), (18, .aload_n 0, 1), (19, .getfield 216, 3), (22, .if_icmp .ge 88, 3), (25, .aload_n 0, 1), (26, .getfield 47, 3), (29, .iload_n 2, 1), (30, .iaload, 1), (31, .iload_n 1, 1), (32, .iadd, 1), (33, .aload_n 0, 1), (34, .getfield 108, 3), (37, .irem, 1), (38, .ifCond .eq 54, 3), (41, .iload_n 1, 1), (42, .iconst 1, 1), (43, .iadd, 1), (44, .aload_n 0, 1), (45, .getfield 108, 3), (48, .irem, 1), (49, .istore_n 1, 1), (50, .aload_n 0, 1), (51, .dup, 1), (52, .getfield 222, 3), (55, .iconst 1, 1), (56, .iadd, 1), (57, .putfield 222, 3), (60, .aload_n 0, 1), (61, .iload_n 1, 1), (62, .invokevirtual 143, 3), (65, .invokestatic 146, 3), (68, .istore_n 3, 1), (69, .aload_n 0, 1), (70, .iload_n 3, 1), (71, .aload_n 0, 1), (72, .getfield 219, 3), (75, .if_icmp .le 7, 3), (78, .iload_n 3, 1), (79, .goto 7, 3), (82, .aload_n 0, 1), (83, .getfield 219, 3), (86, .putfield 219, 3), (89, .goto (-64), 3), (92, .aload_n 0, 1), (93, .getfield 16, 3), (96, .aload_n 0, 1), (97, .getfield 47, 3), (100, .iload_n 2, 1), (101, .iaload, 1), (102, .iconst 0, 1), (103, .iastore, 1), (104, .iinc 2 1, 3), (107, .goto (-90), 3), (110, .iconst 0, 1), (111, .istore_n 2, 1), (112, .iload_n 2, 1), (113, .aload_n 0, 1), (114, .getfield 108, 3), (117, .if_icmp .ge 21, 3), (120, .aload_n 0, 1), (121, .getfield 16, 3), (124, .iload_n 2, 1), (125, .aload_n 0, 1), (126, .getfield 41, 3), (129, .iload_n 2, 1), (130, .iaload, 1), (131, .iastore, 1), (132, .iinc 2 1, 3), (135, .goto (-23), 3), (138, .return_, 1)]
/-- EvenWheelModel.tryOrder()V -/
def e_pg_236 : List (Nat × e_PI) := [(0, 2, 0, 1, 0, 0), (1, 30, 96, 11, 1, 0), (4, 4, 1, 1, 0, 0), (5, 2, 0, 1, 0, 0), (6, 0, 1, 0, 0, 0), (7, 31, 104, 11, 27, 0), (10, 2, 0, 1, 0, 0), (11, 0, 1, 0, 0, 0), (12, 31, 105, 11, 28, 0), (15, 0, 1, 0, 0, 0), (16, 4, 2, 1, 0, 0), (17, 1, 2, 1, 0, 0), (18, 2, 0, 1, 0, 0), (19, 30, 103, 11, 24, 0), (22, 29, 3, 110, 0, 0), (25, 2, 0, 1, 0, 0), (26, 30, 77, 11, 25, 0), (29, 1, 2, 1, 0, 0), (30, 32, 0, 0, 0, 0), (31, 1, 1, 1, 0, 0), (32, 8, 0, 0, 0, 0), (33, 2, 0, 1, 0, 0), (34, 30, 95, 11, 0, 0), (37, 13, 0, 0, 0, 0), (38, 28, 0, 92, 0, 0), (41, 1, 1, 1, 0, 0), (42, 0, 1, 0, 0, 1), (43, 8, 0, 0, 0, 0), (44, 2, 0, 1, 0, 0), (45, 30, 95, 11, 0, 0), (48, 13, 0, 0, 0, 0), (49, 4, 1, 1, 0, 0), (50, 2, 0, 1, 0, 0), (51, 24, 0, 0, 0, 0), (52, 30, 105, 11, 28, 0), (55, 0, 1, 0, 0, 1), (56, 8, 0, 0, 0, 0), (57, 31, 105, 11, 28, 0), (60, 2, 0, 1, 0, 0), (61, 1, 1, 1, 0, 0), (62, 44, 5675, 200, 2, 0), (65, 44, 5695, 194, 1, 0), (68, 4, 3, 1, 0, 0), (69, 2, 0, 1, 0, 0), (70, 1, 3, 1, 0, 0), (71, 2, 0, 1, 0, 0), (72, 30, 104, 11, 27, 0), (75, 29, 5, 82, 0, 0), (78, 1, 3, 1, 0, 0), (79, 27, 86, 0, 0, 0), (82, 2, 0, 1, 0, 0), (83, 30, 104, 11, 27, 0), (86, 31, 104, 11, 27, 0), (89, 27, 25, 0, 0, 0), (92, 2, 0, 1, 0, 0), (93, 30, 67, 11, 11, 0), (96, 2, 0, 1, 0, 0), (97, 30, 77, 11, 25, 0), (100, 1, 2, 1, 0, 0), (101, 32, 0, 0, 0, 0), (102, 0, 1, 0, 0, 0), (103, 33, 0, 0, 0, 0), (104, 7, 2, 0, 0, 1), (107, 27, 17, 0, 0, 0), (110, 0, 1, 0, 0, 0), (111, 4, 2, 1, 0, 0), (112, 1, 2, 1, 0, 0), (113, 2, 0, 1, 0, 0), (114, 30, 95, 11, 0, 0), (117, 29, 3, 138, 0, 0), (120, 2, 0, 1, 0, 0), (121, 30, 67, 11, 11, 0), (124, 1, 2, 1, 0, 0), (125, 2, 0, 1, 0, 0), (126, 30, 75, 11, 22, 0), (129, 1, 2, 1, 0, 0), (130, 32, 0, 0, 0, 0), (131, 33, 0, 0, 0, 0), (132, 7, 2, 0, 0, 1), (135, 27, 112, 0, 0, 0), (138, 50, 0, 0, 0, 0)]
def e_in_237 : List (Nat × Instr × Nat) := [(0, .iload_n 1, 1), (1, .istore_n 3, 1), (2, .iload_n 2, 1), (3, .istore 4, 2), (5, .iconst 0, 1), (6, .istore 5, 2), (8, .iconst 0, 1), (9, .istore 6, 2), (11, .iload 6, 2), (13, .aload_n 0, 1), (14, .getfield 216, 3), (17, .if_icmp .ge 101, 3), (20, .iload 4, 2), (22, .aload_n 0, 1), (23, .getfield 216, 3), (26, .iload 6, 2), (28, .isub, 1), (29, .idiv, 1), (30, .istore 4, 2), (32, .iload_n 3, 1), (33, .iload 4, 2), (35, .idiv, 1), (36, .istore 7, 2), (38, .iload_n 3, 1), (39, .iload 4, 2), (41, .irem, 1), (42, .istore_n 3, 1), (43, .iconst 0, 1), (44, .istore 8, 2), (46, .iload 7, 2), (48, .ifCond .gt 14, 3), (51, .iload 5, 2), (53, .iload 8, 2), (55, .ishr, 1), (56, .iconst 1, 1), (57, .iand, 1), (58, .iconst 1, 1), (59, .if_icmp .ne 30, 3), (62, .iload 7, 2), (64, .iload 5, 2), (66, .iload 8, 2), (68, .ishr, 1), (69, .iconst 1, 1), (70, .iand, 1), (71, .iconst 1, 1), (72, .if_icmp .ne 7, 3), (75, .iconst 0, 1), (76, .goto 4, 3), (79, .iconst 1, 1), (80, .isub, 1), (81, .istore 7, 2), (83, .iinc 8 1, 3), (86, .goto (-40), 3), (89, .iload 5, 2), (91, .iconst 1, 1), (92, .iload 8, 2), (94, .ishl, 1), (95, .ior, 1), (96, .istore 5, 2), (98, .aload_n 0, 1), (99, .getfield 47, 3), (102, .iload 6, 2), (104, .aload_n 0, 1), (105, .getfield 44, 3), (108, .iload 8, 2), (110, .iaload, 1), (111, .iastore, 1), (112, .iinc 6 1, 3), (115, .goto (-104), 3), (118, .return_, 1)]
/-- EvenWheelModel.layOrder(II)V -/
def e_pg_237 : List (Nat × e_PI) := [(0, 1, 1, 1, 0, 0), (1, 4, 3, 1, 0, 0), (2, 1, 2, 1, 0, 0), (3, 4, 4, 2, 0, 0), (5, 0, 1, 0, 0, 0), (6, 4, 5, 2, 0, 0), (8, 0, 1, 0, 0, 0), (9, 4, 6, 2, 0, 0), (11, 1, 6, 2, 0, 0), (13, 2, 0, 1, 0, 0), (14, 30, 103, 11, 24, 0), (17, 29, 3, 118, 0, 0), (20, 1, 4, 2, 0, 0), (22, 2, 0, 1, 0, 0), (23, 30, 103, 11, 24, 0), (26, 1, 6, 2, 0, 0), (28, 9, 0, 0, 0, 0), (29, 12, 0, 0, 0, 0), (30, 4, 4, 2, 0, 0), (32, 1, 3, 1, 0, 0), (33, 1, 4, 2, 0, 0), (35, 12, 0, 0, 0, 0), (36, 4, 7, 2, 0, 0), (38, 1, 3, 1, 0, 0), (39, 1, 4, 2, 0, 0), (41, 13, 0, 0, 0, 0), (42, 4, 3, 1, 0, 0), (43, 0, 1, 0, 0, 0), (44, 4, 8, 2, 0, 0), (46, 1, 7, 2, 0, 0), (48, 28, 4, 62, 0, 0), (51, 1, 5, 2, 0, 0), (53, 1, 8, 2, 0, 0), (55, 15, 0, 0, 0, 0), (56, 0, 1, 0, 0, 1), (57, 16, 0, 0, 0, 0), (58, 0, 1, 0, 0, 1), (59, 29, 1, 89, 0, 0), (62, 1, 7, 2, 0, 0), (64, 1, 5, 2, 0, 0), (66, 1, 8, 2, 0, 0), (68, 15, 0, 0, 0, 0), (69, 0, 1, 0, 0, 1), (70, 16, 0, 0, 0, 0), (71, 0, 1, 0, 0, 1), (72, 29, 1, 79, 0, 0), (75, 0, 1, 0, 0, 0), (76, 27, 80, 0, 0, 0), (79, 0, 1, 0, 0, 1), (80, 9, 0, 0, 0, 0), (81, 4, 7, 2, 0, 0), (83, 7, 8, 0, 0, 1), (86, 27, 46, 0, 0, 0), (89, 1, 5, 2, 0, 0), (91, 0, 1, 0, 0, 1), (92, 1, 8, 2, 0, 0), (94, 14, 0, 0, 0, 0), (95, 17, 0, 0, 0, 0), (96, 4, 5, 2, 0, 0), (98, 2, 0, 1, 0, 0), (99, 30, 77, 11, 25, 0), (102, 1, 6, 2, 0, 0), (104, 2, 0, 1, 0, 0), (105, 30, 76, 11, 23, 0), (108, 1, 8, 2, 0, 0), (110, 32, 0, 0, 0, 0), (111, 33, 0, 0, 0, 0), (112, 7, 6, 0, 0, 1), (115, 27, 11, 0, 0, 0), (118, 50, 0, 0, 0, 0)]
def e_in_238 : List (Nat × Instr × Nat) := [(0, .iconst 1, 1), (1, .istore_n 1, 1), (2, .iconst 2, 1), (3, .istore_n 2, 1), (4, .iload_n 2, 1), (5, .aload_n 0, 1), (6, .getfield 216, 3), (9, .if_icmp .gt 13, 3), (12, .iload_n 1, 1), (13, .iload_n 2, 1), (14, .imul, 1), (15, .istore_n 1, 1), (16, .iinc 2 1, 3), (19, .goto (-15), 3), (22, .aload_n 0, 1), (23, .iconst (-1), 1), (24, .putfield 225, 3), (27, .aload_n 0, 1), (28, .iconst 0, 1), (29, .putfield 228, 3), (32, .iconst 0, 1), (33, .istore_n 2, 1), (34, .iload_n 2, 1), (35, .iload_n 1, 1), (36, .if_icmp .ge 104, 3), (39, .aload_n 0, 1), (40, .iload_n 2, 1), (41, .iload_n 1, 1), (42, .invokevirtual 231, 3), (45, .aload_n 0, 1), (46, .invokevirtual 235, 3), (49, .aload_n 0, 1), (50, .getfield 225, 3), (53, .iconst (-1), 1), (54, .if_icmp .eq 36, 3), (57, .aload_n 0, 1), (58, .getfield 219, 3), (61, .aload_n 0, 1), (62, .getfield 225, 3), (65, .if_icmp .lt 25, 3), (68, .aload_n 0, 1), (69, .getfield 219, 3), (72, .aload_n 0, 1), (73, .getfield 225, 3), (76, .if_icmp .ne 58, 3), (79, .aload_n 0, 1), (80, .getfield 222, 3), (83, .aload_n 0, 1), (84, .getfield 228, 3), (87, .if_icmp .ge 47, 3), (90, .aload_n 0, 1), (91, .aload_n 0, 1), (92, .getfield 219, 3), (95, .putfield 225, 3), (98, .aload_n 0, 1), (99, .aload_n 0, 1), (100, .getfield 222, 3), (103, .putfield 228, 3), (106, .iconst 0, 1), (107, .istore_n 3, 1), (108, .iload_n 3, 1), (109, .aload_n 0, 1), (110, .getfield 216, 3), (113, .if_icmp .ge 21, 3), (116, .aload_n 0, 1), (117, .getfield 50, 3), (120, .iload_n 3, 1), (121, .aload_n 0, 1), (122, .getfield 47, 3), (125, .iload_n 3, 1), (126, .iaload, 1), (127, .iastore, 1), (128, .iinc 3 1, 3), (131, .goto (-23), 3), (134, .iinc 2 1, 3), (137, .goto (-103), 3), (140, .return_, 1)]
/-- EvenWheelModel.findBest()V -/
def e_pg_238 : List (Nat × e_PI) := [(0, 0, 1, 0, 0, 1), (1, 4, 1, 1, 0, 0), (2, 0, 1, 0, 0, 2), (3, 4, 2, 1, 0, 0), (4, 1, 2, 1, 0, 0), (5, 2, 0, 1, 0, 0), (6, 30, 103, 11, 24, 0), (9, 29, 4, 22, 0, 0), (12, 1, 1, 1, 0, 0), (13, 1, 2, 1, 0, 0), (14, 10, 0, 0, 0, 0), (15, 4, 1, 1, 0, 0), (16, 7, 2, 0, 0, 1), (19, 27, 4, 0, 0, 0), (22, 2, 0, 1, 0, 0), (23, 0, 1, 0, 0, -1), (24, 31, 106, 11, 29, 0), (27, 2, 0, 1, 0, 0), (28, 0, 1, 0, 0, 0), (29, 31, 107, 11, 30, 0), (32, 0, 1, 0, 0, 0), (33, 4, 2, 1, 0, 0), (34, 1, 2, 1, 0, 0), (35, 1, 1, 1, 0, 0), (36, 29, 3, 140, 0, 0), (39, 2, 0, 1, 0, 0), (40, 1, 2, 1, 0, 0), (41, 1, 1, 1, 0, 0), (42, 44, 5931, 237, 3, 0), (45, 2, 0, 1, 0, 0), (46, 44, 5947, 236, 1, 0), (49, 2, 0, 1, 0, 0), (50, 30, 106, 11, 29, 0), (53, 0, 1, 0, 0, -1), (54, 29, 0, 90, 0, 0), (57, 2, 0, 1, 0, 0), (58, 30, 104, 11, 27, 0), (61, 2, 0, 1, 0, 0), (62, 30, 106, 11, 29, 0), (65, 29, 2, 90, 0, 0), (68, 2, 0, 1, 0, 0), (69, 30, 104, 11, 27, 0), (72, 2, 0, 1, 0, 0), (73, 30, 106, 11, 29, 0), (76, 29, 1, 134, 0, 0), (79, 2, 0, 1, 0, 0), (80, 30, 105, 11, 28, 0), (83, 2, 0, 1, 0, 0), (84, 30, 107, 11, 30, 0), (87, 29, 3, 134, 0, 0), (90, 2, 0, 1, 0, 0), (91, 2, 0, 1, 0, 0), (92, 30, 104, 11, 27, 0), (95, 31, 106, 11, 29, 0), (98, 2, 0, 1, 0, 0), (99, 2, 0, 1, 0, 0), (100, 30, 105, 11, 28, 0), (103, 31, 107, 11, 30, 0), (106, 0, 1, 0, 0, 0), (107, 4, 3, 1, 0, 0), (108, 1, 3, 1, 0, 0), (109, 2, 0, 1, 0, 0), (110, 30, 103, 11, 24, 0), (113, 29, 3, 134, 0, 0), (116, 2, 0, 1, 0, 0), (117, 30, 78, 11, 26, 0), (120, 1, 3, 1, 0, 0), (121, 2, 0, 1, 0, 0), (122, 30, 77, 11, 25, 0), (125, 1, 3, 1, 0, 0), (126, 32, 0, 0, 0, 0), (127, 33, 0, 0, 0, 0), (128, 7, 3, 0, 0, 1), (131, 27, 108, 0, 0, 0), (134, 7, 2, 0, 0, 1), (137, 27, 34, 0, 0, 0), (140, 50, 0, 0, 0, 0)]
def e_in_239 : List (Nat × Instr × Nat) := [(0, .iload_n 1, 1), (1, .i2l, 1), (2, .lconst 0, 1), (3, .lconst 1, 1), (4, .invokestatic 136, 3), (7, .ifCond .ne 6, 3), (10, .bipush (-102), 2), (12, .ireturn, 1), (13, .aload_n 0, 1), (14, .invokevirtual 238, 3), (17, .aload_n 0, 1), (18, .getfield 216, 3), (21, .bipush 6, 2), (23, .if_icmp .gt 12, 3), (26, .aload_n 0, 1), (27, .getfield 241, 3), (30, .bipush 30, 2), (32, .if_icmp .ne 6, 3), (35, .bipush (-103), 2), (37, .ireturn, 1), (38, .aload_n 0, 1), (39, .dup, 1), (40, .getfield 241, 3), (43, .iconst 1, 1), (44, .iadd, 1), (45, .putfield 241, 3), (48, .aload_n 0, 1), (49, .getfield 216, 3), (52, .ifCond .ne 5, 3), (55, .iconst (-1), 1), (56, .ireturn, 1), (57, .aload_n 0, 1), (58, .invokevirtual 244, 3), (61, .iload_n 1, 1), (62, .ifCond .ne 10, 3), (65, .aload_n 0, 1), (66, .getfield 225, 3), (69, .goto 7, 3), (72, .aload_n 0, 1), (73, .getfield 228, 3), (76, .ireturn, 1)]
/-- EvenWheelModel.order(I)I -/
def e_pg_239 : List (Nat × e_PI) := [(0, 1, 1, 1, 0, 0), (1, 19, 0, 0, 0, 0), (2, 23, 1, 0, 0, 0), (3, 23, 1, 0, 0, 1), (4, 44, 5647, 193, 3, 0), (7, 28, 1, 13, 0, 0), (10, 0, 2, 0, 0, -102), (12, 51, 0, 0, 0, 0), (13, 2, 0, 1, 0, 0), (14, 44, 5963, 235, 1, 0), (17, 2, 0, 1, 0, 0), (18, 30, 103, 11, 24, 0), (21, 0, 2, 0, 0, 6), (23, 29, 4, 35, 0, 0), (26, 2, 0, 1, 0, 0), (27, 30, 108, 11, 21, 0), (30, 0, 2, 0, 0, 30), (32, 29, 1, 38, 0, 0), (35, 0, 2, 0, 0, -103), (37, 51, 0, 0, 0, 0), (38, 2, 0, 1, 0, 0), (39, 24, 0, 0, 0, 0), (40, 30, 108, 11, 21, 0), (43, 0, 1, 0, 0, 1), (44, 8, 0, 0, 0, 0), (45, 31, 108, 11, 21, 0), (48, 2, 0, 1, 0, 0), (49, 30, 103, 11, 24, 0), (52, 28, 1, 57, 0, 0), (55, 0, 1, 0, 0, -1), (56, 51, 0, 0, 0, 0), (57, 2, 0, 1, 0, 0), (58, 44, 5979, 238, 1, 0), (61, 1, 1, 1, 0, 0), (62, 28, 1, 72, 0, 0), (65, 2, 0, 1, 0, 0), (66, 30, 106, 11, 29, 0), (69, 27, 76, 0, 0, 0), (72, 2, 0, 1, 0, 0), (73, 30, 107, 11, 30, 0), (76, 51, 0, 0, 0, 0)]
def e_in_240 : List (Nat × Instr × Nat) := [(0, .aload_n 0, 1), (1, .invokevirtual 238, 3), (4, .aload_n 0, 1), (5, .getfield 216, 3), (8, .bipush 6, 2), (10, .if_icmp .gt 12, 3), (13, .aload_n 0, 1), (14, .getfield 241, 3), (17, .bipush 30, 2), (19, .if_icmp .ne 6, 3), (22, .bipush (-103), 2), (24, .ireturn, 1), (25, .aload_n 0, 1), (26, .dup, 1), (27, .getfield 241, 3), (30, .iconst 1, 1), (31, .iadd, 1), (32, .putfield 241, 3), (35, .iload_n 1, 1), (36, .i2l, 1), (37, .lconst 0, 1), (38, .aload_n 0, 1), (39, .getfield 216, 3), (42, .iconst 1, 1), (43, .isub, 1), (44, .i2l, 1), (45, .invokestatic 136, 3), (48, .ifCond .ne 5, 3), (51, .iconst (-1), 1), (52, .ireturn, 1), (53, .aload_n 0, 1), (54, .invokevirtual 244, 3), (57, .aload_n 0, 1), (58, .getfield 50, 3), (61, .iload_n 1, 1), (62, .iaload, 1), (63, .ireturn, 1)]
/-- EvenWheelModel.ordered(I)I -/
def e_pg_240 : List (Nat × e_PI) := [(0, 2, 0, 1, 0, 0), (1, 44, 5963, 235, 1, 0), (4, 2, 0, 1, 0, 0), (5, 30, 103, 11, 24, 0), (8, 0, 2, 0, 0, 6), (10, 29, 4, 22, 0, 0), (13, 2, 0, 1, 0, 0), (14, 30, 108, 11, 21, 0), (17, 0, 2, 0, 0, 30), (19, 29, 1, 25, 0, 0), (22, 0, 2, 0, 0, -103), (24, 51, 0, 0, 0, 0), (25, 2, 0, 1, 0, 0), (26, 24, 0, 0, 0, 0), (27, 30, 108, 11, 21, 0), (30, 0, 1, 0, 0, 1), (31, 8, 0, 0, 0, 0), (32, 31, 108, 11, 21, 0), (35, 1, 1, 1, 0, 0), (36, 19, 0, 0, 0, 0), (37, 23, 1, 0, 0, 0), (38, 2, 0, 1, 0, 0), (39, 30, 103, 11, 24, 0), (42, 0, 1, 0, 0, 1), (43, 9, 0, 0, 0, 0), (44, 19, 0, 0, 0, 0), (45, 44, 5647, 193, 3, 0), (48, 28, 1, 53, 0, 0), (51, 0, 1, 0, 0, -1), (52, 51, 0, 0, 0, 0), (53, 2, 0, 1, 0, 0), (54, 44, 5979, 238, 1, 0), (57, 2, 0, 1, 0, 0), (58, 30, 78, 11, 26, 0), (61, 1, 1, 1, 0, 0), (62, 32, 0, 0, 0, 0), (63, 51, 0, 0, 0, 0)]
def e_in_241 : List (Nat × Instr × Nat) := [(0, .aload_n 0, 1), (1, .invokevirtual 238, 3), (4, .aload_n 0, 1), (5, .getfield 216, 3), (8, .bipush 6, 2), (10, .if_icmp .le 6, 3), (13, .bipush (-103), 2), (15, .ireturn, 1), (16, .iload_n 1, 1), (17, .istore_n 2, 1), (18, .iconst 0, 1), (19, .istore_n 3, 1), (20, .iload_n 1, 1), (21, .ifCond .lt 7, 3), (24, .iconst 1, 1), (25, .goto 4, 3), (28, .iconst 0, 1), (29, .istore 4, 2), (31, .aload_n 0, 1), (32, .getfield 216, 3), (35, .iconst 1, 1), (36, .isub, 1), (37, .istore 5, 2), (39, .iload 5, 2), (41, .ifCond .lt 92, 3), (44, .iload 4, 2), (46, .ifCond .eq 87, 3), (49, .aload_n 0, 1), (50, .getfield 47, 3), (53, .iload 5, 2), (55, .iload_n 2, 1), (56, .bipush 30, 2), (58, .irem, 1), (59, .iastore, 1), (60, .iload_n 2, 1), (61, .bipush 30, 2), (63, .idiv, 1), (64, .istore_n 2, 1), (65, .aload_n 0, 1), (66, .getfield 47, 3), (69, .iload 5, 2), (71, .iaload, 1), (72, .aload_n 0, 1), (73, .getfield 108, 3), (76, .if_icmp .ge 36, 3), (79, .aload_n 0, 1), (80, .getfield 41, 3), (83, .aload_n 0, 1), (84, .getfield 47, 3), (87, .iload 5, 2), (89, .iaload, 1), (90, .iaload, 1), (91, .ifCond .le 21, 3), (94, .iload_n 3, 1), (95, .aload_n 0, 1), (96, .getfield 47, 3), (99, .iload 5, 2), (101, .iaload, 1), (102, .ishr, 1), (103, .iconst 1, 1), (104, .iand, 1), (105, .ifCond .ne 7, 3), (108, .iconst 1, 1), (109, .goto 4, 3), (112, .iconst 0, 1), (113, .istore 4, 2), (115, .iload_n 3, 1), (116, .iconst 1, 1), (117, .aload_n 0, 1), (118, .getfield 47, 3), (121, .iload 5, 2), (123, .iaload, 1), (124, .ishl, 1), (125, .ior, 1), (126, .istore_n 3, 1), (127, .iinc 5 (-1), 3), (130, .goto (-91), 3), (133, .iload 4, 2), (135, .ifCond .eq 7, 3), (138, .iload_n 2, 1), (139, .ifCond .eq 6, 3), (142, .bipush (-102), 2), (144, .ireturn, 1), (145, .aload_n 0, 1), (146, .invokevirtual 235, 3), (149, .aload_n 0, 1), (150, .getfield 219, 3), (153, .ireturn, 1)]
/-- EvenWheelModel.cost(I)I -/
def e_pg_241 : List (Nat × e_PI) := [(0, 2, 0, 1, 0, 0), (1, 44, 5963, 235, 1, 0), (4, 2, 0, 1, 0, 0), (5, 30, 103, 11, 24, 0), (8, 0, 2, 0, 0, 6), (10, 29, 5, 16, 0, 0), (13, 0, 2, 0, 0, -103), (15, 51, 0, 0, 0, 0), (16, 1, 1, 1, 0, 0), (17, 4, 2, 1, 0, 0), (18, 0, 1, 0, 0, 0), (19, 4, 3, 1, 0, 0), (20, 1, 1, 1, 0, 0), (21, 28, 2, 28, 0, 0), (24, 0, 1, 0, 0, 1), (25, 27, 29, 0, 0, 0), (28, 0, 1, 0, 0, 0), (29, 4, 4, 2, 0, 0), (31, 2, 0, 1, 0, 0), (32, 30, 103, 11, 24, 0), (35, 0, 1, 0, 0, 1), (36, 9, 0, 0, 0, 0), (37, 4, 5, 2, 0, 0), (39, 1, 5, 2, 0, 0), (41, 28, 2, 133, 0, 0), (44, 1, 4, 2, 0, 0), (46, 28, 0, 133, 0, 0), (49, 2, 0, 1, 0, 0), (50, 30, 77, 11, 25, 0), (53, 1, 5, 2, 0, 0), (55, 1, 2, 1, 0, 0), (56, 0, 2, 0, 0, 30), (58, 13, 0, 0, 0, 0), (59, 33, 0, 0, 0, 0), (60, 1, 2, 1, 0, 0), (61, 0, 2, 0, 0, 30), (63, 12, 0, 0, 0, 0), (64, 4, 2, 1, 0, 0), (65, 2, 0, 1, 0, 0), (66, 30, 77, 11, 25, 0), (69, 1, 5, 2, 0, 0), (71, 32, 0, 0, 0, 0), (72, 2, 0, 1, 0, 0), (73, 30, 95, 11, 0, 0), (76, 29, 3, 112, 0, 0), (79, 2, 0, 1, 0, 0), (80, 30, 75, 11, 22, 0), (83, 2, 0, 1, 0, 0), (84, 30, 77, 11, 25, 0), (87, 1, 5, 2, 0, 0), (89, 32, 0, 0, 0, 0), (90, 32, 0, 0, 0, 0), (91, 28, 5, 112, 0, 0), (94, 1, 3, 1, 0, 0), (95, 2, 0, 1, 0, 0), (96, 30, 77, 11, 25, 0), (99, 1, 5, 2, 0, 0), (101, 32, 0, 0, 0, 0), (102, 15, 0, 0, 0, 0), (103, 0, 1, 0, 0, 1), (104, 16, 0, 0, 0, 0), (105, 28, 1, 112, 0, 0), (108, 0, 1, 0, 0, 1), (109, 27, 113, 0, 0, 0), (112, 0, 1, 0, 0, 0), (113, 4, 4, 2, 0, 0), (115, 1, 3, 1, 0, 0), (116, 0, 1, 0, 0, 1), (117, 2, 0, 1, 0, 0), (118, 30, 77, 11, 25, 0), (121, 1, 5, 2, 0, 0), (123, 32, 0, 0, 0, 0), (124, 14, 0, 0, 0, 0), (125, 17, 0, 0, 0, 0), (126, 4, 3, 1, 0, 0), (127, 7, 5, 0, 0, -1), (130, 27, 39, 0, 0, 0), (133, 1, 4, 2, 0, 0), (135, 28, 0, 142, 0, 0), (138, 1, 2, 1, 0, 0), (139, 28, 0, 145, 0, 0), (142, 0, 2, 0, 0, -102), (144, 51, 0, 0, 0, 0), (145, 2, 0, 1, 0, 0), (146, 44, 5947, 236, 1, 0), (149, 2, 0, 1, 0, 0), (150, 30, 104, 11, 27, 0), (153, 51, 0, 0, 0, 0)]
def e_in_242 : List (Nat × Instr × Nat) := [(0, .iconst 0, 1), (1, .istore_n 1, 1), (2, .iconst 1, 1), (3, .istore_n 2, 1), (4, .iload_n 2, 1), (5, .ifCond .eq 109, 3), (8, .aload_n 0, 1), (9, .aload_n 0, 1), (10, .getfield 111, 3), (13, .invokevirtual 143, 3), (16, .istore_n 3, 1), (17, .aload_n 0, 1), (18, .getfield 111, 3), (21, .aload_n 0, 1), (22, .getfield 108, 3), (25, .iadd, 1), (26, .iconst 1, 1), (27, .isub, 1), (28, .aload_n 0, 1), (29, .getfield 108, 3), (32, .irem, 1), (33, .istore 4, 2), (35, .aload_n 0, 1), (36, .getfield 111, 3), (39, .iconst 1, 1), (40, .iadd, 1), (41, .aload_n 0, 1), (42, .getfield 108, 3), (45, .irem, 1), (46, .istore 5, 2), (48, .iload_n 3, 1), (49, .ifCond .le 12, 3), (52, .aload_n 0, 1), (53, .iload 4, 2), (55, .invokevirtual 143, 3), (58, .ifCond .ge 16, 3), (61, .iload_n 3, 1), (62, .ifCond .ge 16, 3), (65, .aload_n 0, 1), (66, .iload 5, 2), (68, .invokevirtual 143, 3), (71, .ifCond .gt 7, 3), (74, .iconst 1, 1), (75, .goto 4, 3), (78, .iconst 0, 1), (79, .istore_n 2, 1), (80, .iload_n 2, 1), (81, .ifCond .eq 30, 3), (84, .aload_n 0, 1), (85, .iload_n 3, 1), (86, .ifCond .le 8, 3), (89, .iload 4, 2), (91, .goto 5, 3), (94, .iload 5, 2), (96, .putfield 111, 3), (99, .iload_n 1, 1), (100, .iload_n 3, 1), (101, .ifCond .le 7, 3), (104, .iconst (-1), 1), (105, .goto 4, 3), (108, .iconst 1, 1), (109, .iadd, 1), (110, .istore_n 1, 1), (111, .goto (-107), 3), (114, .iload_n 1, 1), (115, .ireturn, 1)]
/-- EvenWheelModel.rollOn()I -/
def e_pg_242 : List (Nat × e_PI) := [(0, 0, 1, 0, 0, 0), (1, 4, 1, 1, 0, 0), (2, 0, 1, 0, 0, 1), (3, 4, 2, 1, 0, 0), (4, 1, 2, 1, 0, 0), (5, 28, 0, 114, 0, 0), (8, 2, 0, 1, 0, 0), (9, 2, 0, 1, 0, 0), (10, 30, 96, 11, 1, 0), (13, 44, 5675, 200, 2, 0), (16, 4, 3, 1, 0, 0), (17, 2, 0, 1, 0, 0), (18, 30, 96, 11, 1, 0), (21, 2, 0, 1, 0, 0), (22, 30, 95, 11, 0, 0), (25, 8, 0, 0, 0, 0), (26, 0, 1, 0, 0, 1), (27, 9, 0, 0, 0, 0), (28, 2, 0, 1, 0, 0), (29, 30, 95, 11, 0, 0), (32, 13, 0, 0, 0, 0), (33, 4, 4, 2, 0, 0), (35, 2, 0, 1, 0, 0), (36, 30, 96, 11, 1, 0), (39, 0, 1, 0, 0, 1), (40, 8, 0, 0, 0, 0), (41, 2, 0, 1, 0, 0), (42, 30, 95, 11, 0, 0), (45, 13, 0, 0, 0, 0), (46, 4, 5, 2, 0, 0), (48, 1, 3, 1, 0, 0), (49, 28, 5, 61, 0, 0), (52, 2, 0, 1, 0, 0), (53, 1, 4, 2, 0, 0), (55, 44, 5675, 200, 2, 0), (58, 28, 3, 74, 0, 0), (61, 1, 3, 1, 0, 0), (62, 28, 3, 78, 0, 0), (65, 2, 0, 1, 0, 0), (66, 1, 5, 2, 0, 0), (68, 44, 5675, 200, 2, 0), (71, 28, 4, 78, 0, 0), (74, 0, 1, 0, 0, 1), (75, 27, 79, 0, 0, 0), (78, 0, 1, 0, 0, 0), (79, 4, 2, 1, 0, 0), (80, 1, 2, 1, 0, 0), (81, 28, 0, 111, 0, 0), (84, 2, 0, 1, 0, 0), (85, 1, 3, 1, 0, 0), (86, 28, 5, 94, 0, 0), (89, 1, 4, 2, 0, 0), (91, 27, 96, 0, 0, 0), (94, 1, 5, 2, 0, 0), (96, 31, 96, 11, 1, 0), (99, 1, 1, 1, 0, 0), (100, 1, 3, 1, 0, 0), (101, 28, 5, 108, 0, 0), (104, 0, 1, 0, 0, -1), (105, 27, 109, 0, 0, 0), (108, 0, 1, 0, 0, 1), (109, 8, 0, 0, 0, 0), (110, 4, 1, 1, 0, 0), (111, 27, 4, 0, 0, 0), (114, 1, 1, 1, 0, 0), (115, 51, 0, 0, 0, 0)]
def e_in_243 : List (Nat × Instr × Nat) := [(0, .aload_n 0, 1), (1, .invokevirtual 247, 3), (4, .ireturn, 1)]
/-- EvenWheelModel.roll()I -/
def e_pg_243 : List (Nat × e_PI) := [(0, 2, 0, 1, 0, 0), (1, 44, 5995, 242, 1, 0), (4, 51, 0, 0, 0, 0)]
def e_in_244 : List (Nat × Instr × Nat) := [(0, .iconst 0, 1), (1, .istore_n 1, 1), (2, .aload_n 0, 1), (3, .invokevirtual 247, 3), (6, .pop, 1), (7, .aload_n 0, 1), (8, .getfield 13, 3), (11, .aload_n 0, 1), (12, .iconst 0, 1), (13, .invokevirtual 156, 3), (16, .iaload, 1), (17, .ifCond .le 75, 3), (20, .aload_n 0, 1), (21, .iconst 0, 1), (22, .invokevirtual 156, 3), (25, .istore_n 2, 1), (26, .iload_n 1, 1), (27, .aload_n 0, 1), (28, .iload_n 2, 1), (29, .invokevirtual 153, 3), (32, .iadd, 1), (33, .istore_n 1, 1), (34, .iconst 0, 1), (35, .istore_n 3, 1), (36, .iload_n 3, 1), (37, .aload_n 0, 1), (38, .getfield 13, 3), (41, .iload_n 2, 1), (42, .iaload, 1), (43, .if_icmp .ge 27, 3), (46, .aload_n 0, 1), (47, .getfield 28, 3), (50, .aload_n 0, 1), (51, .getfield 7, 3), (54, .bipush 6, 2), (56, .iload_n 2, 1), (57, .imul, 1), (58, .iload_n 3, 1), (59, .iadd, 1), (60, .iaload, 1), (61, .bipush 101, 2), (63, .iastore, 1), (64, .iinc 3 1, 3), (67, .goto (-31), 3), (70, .aload_n 0, 1), (71, .getfield 13, 3), (74, .iload_n 2, 1), (75, .iconst 0, 1), (76, .iastore, 1), (77, .aload_n 0, 1), (78, .getfield 16, 3), (81, .iload_n 2, 1), (82, .iconst 0, 1), (83, .iastore, 1), (84, .aload_n 0, 1), (85, .invokevirtual 247, 3), (88, .pop, 1), (89, .goto (-82), 3), (92, .iload_n 1, 1), (93, .ireturn, 1)]
/-- EvenWheelModel.letOut()I -/
def e_pg_244 : List (Nat × e_PI) := [(0, 0, 1, 0, 0, 0), (1, 4, 1, 1, 0, 0), (2, 2, 0, 1, 0, 0), (3, 44, 5995, 242, 1, 0), (6, 26, 0, 0, 0, 0), (7, 2, 0, 1, 0, 0), (8, 30, 66, 11, 10, 0), (11, 2, 0, 1, 0, 0), (12, 0, 1, 0, 0, 0), (13, 44, 5739, 203, 2, 0), (16, 32, 0, 0, 0, 0), (17, 28, 5, 92, 0, 0), (20, 2, 0, 1, 0, 0), (21, 0, 1, 0, 0, 0), (22, 44, 5739, 203, 2, 0), (25, 4, 2, 1, 0, 0), (26, 1, 1, 1, 0, 0), (27, 2, 0, 1, 0, 0), (28, 1, 2, 1, 0, 0), (29, 44, 5723, 204, 2, 0), (32, 8, 0, 0, 0, 0), (33, 4, 1, 1, 0, 0), (34, 0, 1, 0, 0, 0), (35, 4, 3, 1, 0, 0), (36, 1, 3, 1, 0, 0), (37, 2, 0, 1, 0, 0), (38, 30, 66, 11, 10, 0), (41, 1, 2, 1, 0, 0), (42, 32, 0, 0, 0, 0), (43, 29, 3, 70, 0, 0), (46, 2, 0, 1, 0, 0), (47, 30, 71, 11, 16, 0), (50, 2, 0, 1, 0, 0), (51, 30, 65, 11, 9, 0), (54, 0, 2, 0, 0, 6), (56, 1, 2, 1, 0, 0), (57, 10, 0, 0, 0, 0), (58, 1, 3, 1, 0, 0), (59, 8, 0, 0, 0, 0), (60, 32, 0, 0, 0, 0), (61, 0, 2, 0, 0, 101), (63, 33, 0, 0, 0, 0), (64, 7, 3, 0, 0, 1), (67, 27, 36, 0, 0, 0), (70, 2, 0, 1, 0, 0), (71, 30, 66, 11, 10, 0), (74, 1, 2, 1, 0, 0), (75, 0, 1, 0, 0, 0), (76, 33, 0, 0, 0, 0), (77, 2, 0, 1, 0, 0), (78, 30, 67, 11, 11, 0), (81, 1, 2, 1, 0, 0), (82, 0, 1, 0, 0, 0), (83, 33, 0, 0, 0, 0), (84, 2, 0, 1, 0, 0), (85, 44, 5995, 242, 1, 0), (88, 26, 0, 0, 0, 0), (89, 27, 7, 0, 0, 0), (92, 1, 1, 1, 0, 0), (93, 51, 0, 0, 0, 0)]
def e_in_245 : List (Nat × Instr × Nat) := [(0, .aload_n 0, 1), (1, .getfield 111, 3), (4, .istore_n 1, 1), (5, .aload_n 0, 1), (6, .invokevirtual 159, 3), (9, .istore_n 2, 1), (10, .iconst 0, 1), (11, .istore_n 3, 1), (12, .iload_n 3, 1), (13, .aload_n 0, 1), (14, .getfield 108, 3), (17, .if_icmp .ge 21, 3), (20, .aload_n 0, 1), (21, .getfield 41, 3), (24, .iload_n 3, 1), (25, .aload_n 0, 1), (26, .getfield 16, 3), (29, .iload_n 3, 1), (30, .iaload, 1), (31, .iastore, 1), (32, .iinc 3 1, 3), (35, .goto (-23), 3), (38, .aload_n 0, 1), (39, .invokevirtual 247, 3), (42, .pop, 1), (43, .aload_n 0, 1), (44, .getfield 16, 3), (47, .aload_n 0, 1), (48, .iconst 0, 1), (49, .invokevirtual 156, 3), (52, .iaload, 1), (53, .ifCond .le 34, 3), (56, .iload_n 2, 1), (57, .aload_n 0, 1), (58, .aload_n 0, 1), (59, .iconst 0, 1), (60, .invokevirtual 156, 3), (63, .invokevirtual 153, 3), (66, .isub, 1), (67, .istore_n 2, 1), (68, .aload_n 0, 1), (69, .getfield 16, 3), (72, .aload_n 0, 1), (73, .iconst 0, 1), (74, .invokevirtual 156, 3), (77, .iconst 0, 1), (78, .iastore, 1), (79, .aload_n 0, 1), (80, .invokevirtual 247, 3), (83, .pop, 1), (84, .goto (-41), 3), (87, .aload_n 0, 1), (88, .iload_n 1, 1), (89, .putfield 111, 3), (92, .iconst 0, 1), (93, .istore_n 3, 1), (94, .iload_n 3, 1), (95, .aload_n 0, 1), (96, .getfield 108, 3), (99, .if_icmp .ge 21, 3), (102, .aload_n 0, 1), (103, .getfield 16, 3), (106, .iload_n 3, 1), (107, .aload_n 0, 1), (108, .getfield 41, 3), (111, .iload_n 3, 1), (112, .iaload, 1), (113, .iastore, 1), (114, .iinc 3 1, 3), (117, .goto (-23), 3), (120, .iload_n 2, 1), (121, .ireturn, 1)]
/-- EvenWheelModel.stranded()I -/
def e_pg_245 : List (Nat × e_PI) := [(0, 2, 0, 1, 0, 0), (1, 30, 96, 11, 1, 0), (4, 4, 1, 1, 0, 0), (5, 2, 0, 1, 0, 0), (6, 44, 5755, 205, 1, 0), (9, 4, 2, 1, 0, 0), (10, 0, 1, 0, 0, 0), (11, 4, 3, 1, 0, 0), (12, 1, 3, 1, 0, 0), (13, 2, 0, 1, 0, 0), (14, 30, 95, 11, 0, 0), (17, 29, 3, 38, 0, 0), (20, 2, 0, 1, 0, 0), (21, 30, 75, 11, 22, 0), (24, 1, 3, 1, 0, 0), (25, 2, 0, 1, 0, 0), (26, 30, 67, 11, 11, 0), (29, 1, 3, 1, 0, 0), (30, 32, 0, 0, 0, 0), (31, 33, 0, 0, 0, 0), (32, 7, 3, 0, 0, 1), (35, 27, 12, 0, 0, 0), (38, 2, 0, 1, 0, 0), (39, 44, 5995, 242, 1, 0), (42, 26, 0, 0, 0, 0), (43, 2, 0, 1, 0, 0), (44, 30, 67, 11, 11, 0), (47, 2, 0, 1, 0, 0), (48, 0, 1, 0, 0, 0), (49, 44, 5739, 203, 2, 0), (52, 32, 0, 0, 0, 0), (53, 28, 5, 87, 0, 0), (56, 1, 2, 1, 0, 0), (57, 2, 0, 1, 0, 0), (58, 2, 0, 1, 0, 0), (59, 0, 1, 0, 0, 0), (60, 44, 5739, 203, 2, 0), (63, 44, 5723, 204, 2, 0), (66, 9, 0, 0, 0, 0), (67, 4, 2, 1, 0, 0), (68, 2, 0, 1, 0, 0), (69, 30, 67, 11, 11, 0), (72, 2, 0, 1, 0, 0), (73, 0, 1, 0, 0, 0), (74, 44, 5739, 203, 2, 0), (77, 0, 1, 0, 0, 0), (78, 33, 0, 0, 0, 0), (79, 2, 0, 1, 0, 0), (80, 44, 5995, 242, 1, 0), (83, 26, 0, 0, 0, 0), (84, 27, 43, 0, 0, 0), (87, 2, 0, 1, 0, 0), (88, 1, 1, 1, 0, 0), (89, 31, 96, 11, 1, 0), (92, 0, 1, 0, 0, 0), (93, 4, 3, 1, 0, 0), (94, 1, 3, 1, 0, 0), (95, 2, 0, 1, 0, 0), (96, 30, 95, 11, 0, 0), (99, 29, 3, 120, 0, 0), (102, 2, 0, 1, 0, 0), (103, 30, 67, 11, 11, 0), (106, 1, 3, 1, 0, 0), (107, 2, 0, 1, 0, 0), (108, 30, 75, 11, 22, 0), (111, 1, 3, 1, 0, 0), (112, 32, 0, 0, 0, 0), (113, 33, 0, 0, 0, 0), (114, 7, 3, 0, 0, 1), (117, 27, 94, 0, 0, 0), (120, 1, 2, 1, 0, 0), (121, 51, 0, 0, 0, 0)]
def e_in_246 : List (Nat × Instr × Nat) := [(0, .iload_n 1, 1), (1, .i2l, 1), (2, .lconst 0, 1), (3, .ldc2_w 250, 3), (6, .invokestatic 136, 3), (9, .ifCond .eq 24, 3), (12, .iload_n 2, 1), (13, .i2l, 1), (14, .lconst 0, 1), (15, .iload_n 1, 1), (16, .iconst 2, 1), (17, .if_icmp .ne 7, 3), (20, .lconst 0, 1), (21, .goto 6, 3), (24, .ldc2_w 252, 3), (27, .invokestatic 136, 3), (30, .ifCond .ne 6, 3), (33, .bipush (-102), 2), (35, .ireturn, 1), (36, .aload_n 0, 1), (37, .getfield 126, 3), (40, .bipush 40, 2), (42, .if_icmp .ne 6, 3), (45, .bipush (-104), 2), (47, .ireturn, 1), (48, .aload_n 0, 1), (49, .getfield 53, 3), (52, .aload_n 0, 1), (53, .getfield 126, 3), (56, .iload_n 1, 1), (57, .iastore, 1), (58, .aload_n 0, 1), (59, .getfield 56, 3), (62, .aload_n 0, 1), (63, .getfield 126, 3), (66, .iload_n 2, 1), (67, .iastore, 1), (68, .aload_n 0, 1), (69, .dup, 1), (70, .getfield 126, 3), (73, .iconst 1, 1), (74, .iadd, 1), (75, .putfield 126, 3), (78, .aload_n 0, 1), (79, .getfield 126, 3), (82, .ireturn, 1)]
/-- EvenWheelModel.note(II)I -/
def e_pg_246 : List (Nat × e_PI) := [(0, 1, 1, 1, 0, 0), (1, 19, 0, 0, 0, 0), (2, 23, 1, 0, 0, 0), (3, 23, 3, 20, 0, 2), (6, 44, 5647, 193, 3, 0), (9, 28, 0, 33, 0, 0), (12, 1, 2, 1, 0, 0), (13, 19, 0, 0, 0, 0), (14, 23, 1, 0, 0, 0), (15, 1, 1, 1, 0, 0), (16, 0, 1, 0, 0, 2), (17, 29, 1, 24, 0, 0), (20, 23, 1, 0, 0, 0), (21, 27, 27, 0, 0, 0), (24, 23, 3, 21, 0, 36), (27, 44, 5647, 193, 3, 0), (30, 28, 1, 36, 0, 0), (33, 0, 2, 0, 0, -102), (35, 51, 0, 0, 0, 0), (36, 2, 0, 1, 0, 0), (37, 30, 101, 11, 31, 0), (40, 0, 2, 0, 0, 40), (42, 29, 1, 48, 0, 0), (45, 0, 2, 0, 0, -104), (47, 51, 0, 0, 0, 0), (48, 2, 0, 1, 0, 0), (49, 30, 79, 11, 32, 0), (52, 2, 0, 1, 0, 0), (53, 30, 101, 11, 31, 0), (56, 1, 1, 1, 0, 0), (57, 33, 0, 0, 0, 0), (58, 2, 0, 1, 0, 0), (59, 30, 80, 11, 33, 0), (62, 2, 0, 1, 0, 0), (63, 30, 101, 11, 31, 0), (66, 1, 2, 1, 0, 0), (67, 33, 0, 0, 0, 0), (68, 2, 0, 1, 0, 0), (69, 24, 0, 0, 0, 0), (70, 30, 101, 11, 31, 0), (73, 0, 1, 0, 0, 1), (74, 8, 0, 0, 0, 0), (75, 31, 101, 11, 31, 0), (78, 2, 0, 1, 0, 0), (79, 30, 101, 11, 31, 0), (82, 51, 0, 0, 0, 0)]
def e_in_247 : List (Nat × Instr × Nat) := [(0, .bipush 6, 2), (2, .aload_n 0, 1), (3, .getfield 108, 3), (6, .imul, 1), (7, .istore_n 2, 1), (8, .iconst 0, 1), (9, .istore_n 3, 1), (10, .iload_n 3, 1), (11, .iload_n 2, 1), (12, .if_icmp .gt 25, 3), (15, .aload_n 0, 1), (16, .getfield 59, 3), (19, .iload_n 3, 1), (20, .iload_n 3, 1), (21, .iload_n 1, 1), (22, .if_icmp .ne 7, 3), (25, .iconst 1, 1), (26, .goto 4, 3), (29, .iconst 0, 1), (30, .bastore, 1), (31, .iinc 3 1, 3), (34, .goto (-24), 3), (37, .iconst 0, 1), (38, .istore_n 3, 1), (39, .iload_n 3, 1), (40, .aload_n 0, 1), (41, .getfield 126, 3), (44, .if_icmp .ge 189, 3), (47, .aload_n 0, 1), (48, .getfield 53, 3), (51, .iload_n 3, 1), (52, .iaload, 1), (53, .ifCond .ne 12, 3), (56, .aload_n 0, 1), (57, .getfield 56, 3), (60, .iload_n 3, 1), (61, .iaload, 1), (62, .goto 25, 3), (65, .aload_n 0, 1), (66, .getfield 53, 3), (69, .iload_n 3, 1), (70, .iaload, 1), (71, .iconst 1, 1), (72, .if_icmp .ne 13, 3), (75, .aload_n 0, 1), (76, .getfield 56, 3), (79, .iload_n 3, 1), (80, .iaload, 1), (81, .ineg, 1), (82, .goto 5, 3), (85, .bipush (-36), 2), (87, .istore 4, 2), (89, .aload_n 0, 1), (90, .getfield 53, 3), (93, .iload_n 3, 1), (94, .iaload, 1), (95, .iconst 2, 1), (96, .if_icmp .ne 8, 3), (99, .bipush 36, 2), (101, .goto 5, 3), (104, .iload 4, 2), (106, .istore 5, 2), (108, .iconst 0, 1), (109, .istore 6, 2), (111, .iload 6, 2), (113, .iload_n 2, 1), (114, .if_icmp .gt 84, 3), (117, .aload_n 0, 1), (118, .getfield 62, 3), (121, .iload 6, 2), (123, .iconst 0, 1), (124, .bastore, 1), (125, .iload 4, 2), (127, .istore 7, 2), (129, .iload 7, 2), (131, .iload 5, 2), (133, .if_icmp .gt 59, 3), (136, .aload_n 0, 1), (137, .getfield 62, 3), (140, .iload 6, 2), (142, .aload_n 0, 1), (143, .getfield 62, 3), (146, .iload 6, 2), (148, .baload, 1), (149, .ifCond .ne 31, 3), (152, .iload 6, 2), (154, .iload 7, 2), (156, .isub, 1), (157, .i2l, 1), (158, .lconst 0, 1), (159, .iload_n 2, 1), (160, .i2l, 1), (161, .invokestatic 136, 3), (164, .ifCond .eq 20, 3), (167, .aload_n 0, 1), (168, .getfield 59, 3), (171, .iload 6, 2), (173, .iload 7, 2), (175, .isub, 1), (176, .baload, 1), (177, .ifCond .eq 7, 3), (180, .iconst 1, 1), (181, .goto 4, 3), (184, .iconst 0, 1), (185, .bastore, 1), (186, .iinc 7 1, 3), (189, .goto (-60), 3), (192, .iinc 6 1, 3), (195, .goto (-84), 3), (198, .iconst 0, 1), (199, .istore 6, 2), (201, .iload 6, 2), (203, .iload_n 2, 1), (204, .if_icmp .gt 23, 3), (207, .aload_n 0, 1), (208, .getfield 59, 3), (211, .iload 6, 2), (213, .aload_n 0, 1), (214, .getfield 62, 3), (217, .iload 6, 2), (219, .baload, 1), (220, .bastore, 1), (221, .iinc 6 1, 3), (224, .goto (-23), 3), (227, .iinc 3 1, 3), (230, .goto (-191), 3), (233, .return_, 1)]
/-- EvenWheelModel.follow(I)V -/
def e_pg_247 : List (Nat × e_PI) := [(0, 0, 2, 0, 0, 6), (2, 2, 0, 1, 0, 0), (3, 30, 95, 11, 0, 0), (6, 10, 0, 0, 0, 0), (7, 4, 2, 1, 0, 0), (8, 0, 1, 0, 0, 0), (9, 4, 3, 1, 0, 0), (10, 1, 3, 1, 0, 0), (11, 1, 2, 1, 0, 0), (12, 29, 4, 37, 0, 0), (15, 2, 0, 1, 0, 0), (16, 30, 81, 11, 34, 0), (19, 1, 3, 1, 0, 0), (20, 1, 3, 1, 0, 0), (21, 1, 1, 1, 0, 0), (22, 29, 1, 29, 0, 0), (25, 0, 1, 0, 0, 1), (26, 27, 30, 0, 0, 0), (29, 0, 1, 0, 0, 0), (30, 35, 0, 0, 0, 0), (31, 7, 3, 0, 0, 1), (34, 27, 10, 0, 0, 0), (37, 0, 1, 0, 0, 0), (38, 4, 3, 1, 0, 0), (39, 1, 3, 1, 0, 0), (40, 2, 0, 1, 0, 0), (41, 30, 101, 11, 31, 0), (44, 29, 3, 233, 0, 0), (47, 2, 0, 1, 0, 0), (48, 30, 79, 11, 32, 0), (51, 1, 3, 1, 0, 0), (52, 32, 0, 0, 0, 0), (53, 28, 1, 65, 0, 0), (56, 2, 0, 1, 0, 0), (57, 30, 80, 11, 33, 0), (60, 1, 3, 1, 0, 0), (61, 32, 0, 0, 0, 0), (62, 27, 87, 0, 0, 0), (65, 2, 0, 1, 0, 0), (66, 30, 79, 11, 32, 0), (69, 1, 3, 1, 0, 0), (70, 32, 0, 0, 0, 0), (71, 0, 1, 0, 0, 1), (72, 29, 1, 85, 0, 0), (75, 2, 0, 1, 0, 0), (76, 30, 80, 11, 33, 0), (79, 1, 3, 1, 0, 0), (80, 32, 0, 0, 0, 0), (81, 11, 0, 0, 0, 0), (82, 27, 87, 0, 0, 0), (85, 0, 2, 0, 0, -36), (87, 4, 4, 2, 0, 0), (89, 2, 0, 1, 0, 0), (90, 30, 79, 11, 32, 0), (93, 1, 3, 1, 0, 0), (94, 32, 0, 0, 0, 0), (95, 0, 1, 0, 0, 2), (96, 29, 1, 104, 0, 0), (99, 0, 2, 0, 0, 36), (101, 27, 106, 0, 0, 0), (104, 1, 4, 2, 0, 0), (106, 4, 5, 2, 0, 0), (108, 0, 1, 0, 0, 0), (109, 4, 6, 2, 0, 0), (111, 1, 6, 2, 0, 0), (113, 1, 2, 1, 0, 0), (114, 29, 4, 198, 0, 0), (117, 2, 0, 1, 0, 0), (118, 30, 82, 11, 35, 0), (121, 1, 6, 2, 0, 0), (123, 0, 1, 0, 0, 0), (124, 35, 0, 0, 0, 0), (125, 1, 4, 2, 0, 0), (127, 4, 7, 2, 0, 0), (129, 1, 7, 2, 0, 0), (131, 1, 5, 2, 0, 0), (133, 29, 4, 192, 0, 0), (136, 2, 0, 1, 0, 0), (137, 30, 82, 11, 35, 0), (140, 1, 6, 2, 0, 0), (142, 2, 0, 1, 0, 0), (143, 30, 82, 11, 35, 0), (146, 1, 6, 2, 0, 0), (148, 34, 0, 0, 0, 0), (149, 28, 1, 180, 0, 0), (152, 1, 6, 2, 0, 0), (154, 1, 7, 2, 0, 0), (156, 9, 0, 0, 0, 0), (157, 19, 0, 0, 0, 0), (158, 23, 1, 0, 0, 0), (159, 1, 2, 1, 0, 0), (160, 19, 0, 0, 0, 0), (161, 44, 5647, 193, 3, 0), (164, 28, 0, 184, 0, 0), (167, 2, 0, 1, 0, 0), (168, 30, 81, 11, 34, 0), (171, 1, 6, 2, 0, 0), (173, 1, 7, 2, 0, 0), (175, 9, 0, 0, 0, 0), (176, 34, 0, 0, 0, 0), (177, 28, 0, 184, 0, 0), (180, 0, 1, 0, 0, 1), (181, 27, 185, 0, 0, 0), (184, 0, 1, 0, 0, 0), (185, 35, 0, 0, 0, 0), (186, 7, 7, 0, 0, 1), (189, 27, 129, 0, 0, 0), (192, 7, 6, 0, 0, 1), (195, 27, 111, 0, 0, 0), (198, 0, 1, 0, 0, 0), (199, 4, 6, 2, 0, 0), (201, 1, 6, 2, 0, 0), (203, 1, 2, 1, 0, 0), (204, 29, 4, 227, 0, 0), (207, 2, 0, 1, 0, 0), (208, 30, 81, 11, 34, 0), (211, 1, 6, 2, 0, 0), (213, 2, 0, 1, 0, 0), (214, 30, 82, 11, 35, 0), (217, 1, 6, 2, 0, 0), (219, 34, 0, 0, 0, 0), (220, 35, 0, 0, 0, 0), (221, 7, 6, 0, 0, 1), (224, 27, 201, 0, 0, 0), (227, 7, 3, 0, 0, 1), (230, 27, 39, 0, 0, 0), (233, 50, 0, 0, 0, 0)]
def e_in_248 : List (Nat × Instr × Nat) := [(0, .iconst (-1), 1), (1, .istore_n 2, 1), (2, .iconst 0, 1), (3, .istore_n 3, 1), (4, .iload_n 3, 1), (5, .bipush 6, 2), (7, .aload_n 0, 1), (8, .getfield 108, 3), (11, .imul, 1), (12, .if_icmp .gt 34, 3), (15, .aload_n 0, 1), (16, .getfield 59, 3), (19, .iload_n 3, 1), (20, .baload, 1), (21, .ifCond .eq 17, 3), (24, .iload_n 1, 1), (25, .iconst 1, 1), (26, .if_icmp .eq 8, 3), (29, .iload_n 2, 1), (30, .iconst (-1), 1), (31, .if_icmp .ne 7, 3), (34, .iload_n 3, 1), (35, .goto 4, 3), (38, .iload_n 2, 1), (39, .istore_n 2, 1), (40, .iinc 3 1, 3), (43, .goto (-39), 3), (46, .iload_n 2, 1), (47, .ireturn, 1)]
/-- EvenWheelModel.endOf(I)I -/
def e_pg_248 : List (Nat × e_PI) := [(0, 0, 1, 0, 0, -1), (1, 4, 2, 1, 0, 0), (2, 0, 1, 0, 0, 0), (3, 4, 3, 1, 0, 0), (4, 1, 3, 1, 0, 0), (5, 0, 2, 0, 0, 6), (7, 2, 0, 1, 0, 0), (8, 30, 95, 11, 0, 0), (11, 10, 0, 0, 0, 0), (12, 29, 4, 46, 0, 0), (15, 2, 0, 1, 0, 0), (16, 30, 81, 11, 34, 0), (19, 1, 3, 1, 0, 0), (20, 34, 0, 0, 0, 0), (21, 28, 0, 38, 0, 0), (24, 1, 1, 1, 0, 0), (25, 0, 1, 0, 0, 1), (26, 29, 0, 34, 0, 0), (29, 1, 2, 1, 0, 0), (30, 0, 1, 0, 0, -1), (31, 29, 1, 38, 0, 0), (34, 1, 3, 1, 0, 0), (35, 27, 39, 0, 0, 0), (38, 1, 2, 1, 0, 0), (39, 4, 2, 1, 0, 0), (40, 7, 3, 0, 0, 1), (43, 27, 4, 0, 0, 0), (46, 1, 2, 1, 0, 0), (47, 51, 0, 0, 0, 0)]
def e_in_249 : List (Nat × Instr × Nat) := [(0, .iload_n 1, 1), (1, .i2l, 1), (2, .lconst 0, 1), (3, .bipush 6, 2), (5, .aload_n 0, 1), (6, .getfield 108, 3), (9, .imul, 1), (10, .i2l, 1), (11, .invokestatic 136, 3), (14, .ifCond .eq 13, 3), (17, .iload_n 2, 1), (18, .i2l, 1), (19, .lconst 0, 1), (20, .lconst 1, 1), (21, .invokestatic 136, 3), (24, .ifCond .ne 6, 3), (27, .bipush (-102), 2), (29, .ireturn, 1), (30, .aload_n 0, 1), (31, .iload_n 1, 1), (32, .invokevirtual 254, 3), (35, .aload_n 0, 1), (36, .iload_n 2, 1), (37, .invokevirtual 257, 3), (40, .ireturn, 1)]
/-- EvenWheelModel.up(II)I -/
def e_pg_249 : List (Nat × e_PI) := [(0, 1, 1, 1, 0, 0), (1, 19, 0, 0, 0, 0), (2, 23, 1, 0, 0, 0), (3, 0, 2, 0, 0, 6), (5, 2, 0, 1, 0, 0), (6, 30, 95, 11, 0, 0), (9, 10, 0, 0, 0, 0), (10, 19, 0, 0, 0, 0), (11, 44, 5647, 193, 3, 0), (14, 28, 0, 27, 0, 0), (17, 1, 2, 1, 0, 0), (18, 19, 0, 0, 0, 0), (19, 23, 1, 0, 0, 0), (20, 23, 1, 0, 0, 1), (21, 44, 5647, 193, 3, 0), (24, 28, 1, 30, 0, 0), (27, 0, 2, 0, 0, -102), (29, 51, 0, 0, 0, 0), (30, 2, 0, 1, 0, 0), (31, 1, 1, 1, 0, 0), (32, 44, 6011, 247, 2, 0), (35, 2, 0, 1, 0, 0), (36, 1, 2, 1, 0, 0), (37, 44, 6027, 248, 2, 0), (40, 51, 0, 0, 0, 0)]
def e_in_250 : List (Nat × Instr × Nat) := [(0, .iconst 0, 1), (1, .istore_n 1, 1), (2, .iconst 0, 1), (3, .istore_n 2, 1), (4, .iload_n 2, 1), (5, .bipush 6, 2), (7, .aload_n 0, 1), (8, .getfield 108, 3), (11, .imul, 1), (12, .if_icmp .gt 31, 3), (15, .aload_n 0, 1), (16, .iload_n 2, 1), (17, .invokevirtual 254, 3), (20, .iload_n 1, 1), (21, .aload_n 0, 1), (22, .iconst 0, 1), (23, .invokevirtual 257, 3), (26, .iconst (-1), 1), (27, .if_icmp .ne 7, 3), (30, .iconst 0, 1), (31, .goto 4, 3), (34, .iconst 1, 1), (35, .iadd, 1), (36, .istore_n 1, 1), (37, .iinc 2 1, 3), (40, .goto (-36), 3), (43, .iload_n 1, 1), (44, .ireturn, 1)]
/-- EvenWheelModel.begins()I -/
def e_pg_250 : List (Nat × e_PI) := [(0, 0, 1, 0, 0, 0), (1, 4, 1, 1, 0, 0), (2, 0, 1, 0, 0, 0), (3, 4, 2, 1, 0, 0), (4, 1, 2, 1, 0, 0), (5, 0, 2, 0, 0, 6), (7, 2, 0, 1, 0, 0), (8, 30, 95, 11, 0, 0), (11, 10, 0, 0, 0, 0), (12, 29, 4, 43, 0, 0), (15, 2, 0, 1, 0, 0), (16, 1, 2, 1, 0, 0), (17, 44, 6011, 247, 2, 0), (20, 1, 1, 1, 0, 0), (21, 2, 0, 1, 0, 0), (22, 0, 1, 0, 0, 0), (23, 44, 6027, 248, 2, 0), (26, 0, 1, 0, 0, -1), (27, 29, 1, 34, 0, 0), (30, 0, 1, 0, 0, 0), (31, 27, 35, 0, 0, 0), (34, 0, 1, 0, 0, 1), (35, 8, 0, 0, 0, 0), (36, 4, 1, 1, 0, 0), (37, 7, 2, 0, 0, 1), (40, 27, 4, 0, 0, 0), (43, 1, 1, 1, 0, 0), (44, 51, 0, 0, 0, 0)]
def e_in_251 : List (Nat × Instr × Nat) := [(0, .aload_n 0, 1), (1, .getfield 126, 3), (4, .istore_n 1, 1), (5, .aload_n 0, 1), (6, .iconst 0, 1), (7, .putfield 126, 3), (10, .iload_n 1, 1), (11, .ireturn, 1)]
/-- EvenWheelModel.tear()I -/
def e_pg_251 : List (Nat × e_PI) := [(0, 2, 0, 1, 0, 0), (1, 30, 101, 11, 31, 0), (4, 4, 1, 1, 0, 0), (5, 2, 0, 1, 0, 0), (6, 0, 1, 0, 0, 0), (7, 31, 101, 11, 31, 0), (10, 1, 1, 1, 0, 0), (11, 51, 0, 0, 0, 0)]
def e_in_252 : List (Nat × Instr × Nat) := [(0, .aload_n 0, 1), (1, .iload_n 1, 1), (2, .invokevirtual 178, 3), (5, .ifCond .ne 6, 3), (8, .bipush (-101), 2), (10, .ireturn, 1), (11, .iload_n 2, 1), (12, .i2l, 1), (13, .lconst 0, 1), (14, .ldc2_w 260, 3), (17, .invokestatic 136, 3), (20, .ifCond .eq 16, 3), (23, .iload_n 3, 1), (24, .i2l, 1), (25, .iload_n 2, 1), (26, .i2l, 1), (27, .ldc2_w 260, 3), (30, .invokestatic 136, 3), (33, .ifCond .ne 6, 3), (36, .bipush (-102), 2), (38, .ireturn, 1), (39, .aload_n 0, 1), (40, .getfield 65, 3), (43, .iload_n 1, 1), (44, .iload_n 2, 1), (45, .iastore, 1), (46, .aload_n 0, 1), (47, .getfield 68, 3), (50, .iload_n 1, 1), (51, .iload_n 3, 1), (52, .iastore, 1), (53, .iconst 1, 1), (54, .ireturn, 1)]
/-- EvenWheelModel.guess(III)I -/
def e_pg_252 : List (Nat × e_PI) := [(0, 2, 0, 1, 0, 0), (1, 1, 1, 1, 0, 0), (2, 44, 5787, 212, 2, 0), (5, 28, 1, 11, 0, 0), (8, 0, 2, 0, 0, -101), (10, 51, 0, 0, 0, 0), (11, 1, 2, 1, 0, 0), (12, 19, 0, 0, 0, 0), (13, 23, 1, 0, 0, 0), (14, 23, 3, 22, 0, 900), (17, 44, 5647, 193, 3, 0), (20, 28, 0, 36, 0, 0), (23, 1, 3, 1, 0, 0), (24, 19, 0, 0, 0, 0), (25, 1, 2, 1, 0, 0), (26, 19, 0, 0, 0, 0), (27, 23, 3, 22, 0, 900), (30, 44, 5647, 193, 3, 0), (33, 28, 1, 39, 0, 0), (36, 0, 2, 0, 0, -102), (38, 51, 0, 0, 0, 0), (39, 2, 0, 1, 0, 0), (40, 30, 83, 11, 36, 0), (43, 1, 1, 1, 0, 0), (44, 1, 2, 1, 0, 0), (45, 33, 0, 0, 0, 0), (46, 2, 0, 1, 0, 0), (47, 30, 84, 11, 37, 0), (50, 1, 1, 1, 0, 0), (51, 1, 3, 1, 0, 0), (52, 33, 0, 0, 0, 0), (53, 0, 1, 0, 0, 1), (54, 51, 0, 0, 0, 0)]
def e_in_253 : List (Nat × Instr × Nat) := [(0, .iload_n 1, 1), (1, .i2l, 1), (2, .lconst 0, 1), (3, .aload_n 0, 1), (4, .getfield 108, 3), (7, .iconst 1, 1), (8, .isub, 1), (9, .i2l, 1), (10, .invokestatic 136, 3), (13, .ifCond .ne 6, 3), (16, .bipush (-101), 2), (18, .ireturn, 1), (19, .iload_n 2, 1), (20, .i2l, 1), (21, .ldc2_w 262, 3), (24, .ldc2_w 264, 3), (27, .invokestatic 136, 3), (30, .ifCond .eq 15, 3), (33, .iload_n 3, 1), (34, .i2l, 1), (35, .lconst 0, 1), (36, .ldc2_w 266, 3), (39, .invokestatic 136, 3), (42, .ifCond .ne 6, 3), (45, .bipush (-102), 2), (47, .ireturn, 1), (48, .aload_n 0, 1), (49, .getfield 129, 3), (52, .bipush 12, 2), (54, .if_icmp .ne 6, 3), (57, .bipush (-104), 2), (59, .ireturn, 1), (60, .aload_n 0, 1), (61, .getfield 71, 3), (64, .aload_n 0, 1), (65, .getfield 129, 3), (68, .iload_n 1, 1), (69, .iastore, 1), (70, .aload_n 0, 1), (71, .getfield 74, 3), (74, .aload_n 0, 1), (75, .getfield 129, 3), (78, .iload_n 2, 1), (79, .iastore, 1), (80, .aload_n 0, 1), (81, .getfield 77, 3), (84, .aload_n 0, 1), (85, .getfield 129, 3), (88, .iload_n 3, 1), (89, .iastore, 1), (90, .aload_n 0, 1), (91, .dup, 1), (92, .getfield 129, 3), (95, .iconst 1, 1), (96, .iadd, 1), (97, .putfield 129, 3), (100, .aload_n 0, 1), (101, .getfield 129, 3), (104, .ireturn, 1)]
/-- EvenWheelModel.read(III)I -/
def e_pg_253 : List (Nat × e_PI) := [(0, 1, 1, 1, 0, 0), (1, 19, 0, 0, 0, 0), (2, 23, 1, 0, 0, 0), (3, 2, 0, 1, 0, 0), (4, 30, 95, 11, 0, 0), (7, 0, 1, 0, 0, 1), (8, 9, 0, 0, 0, 0), (9, 19, 0, 0, 0, 0), (10, 44, 5647, 193, 3, 0), (13, 28, 1, 19, 0, 0), (16, 0, 2, 0, 0, -101), (18, 51, 0, 0, 0, 0), (19, 1, 2, 1, 0, 0), (20, 19, 0, 0, 0, 0), (21, 23, 3, 23, 0, -2000000), (24, 23, 3, 24, 0, 2000000), (27, 44, 5647, 193, 3, 0), (30, 28, 0, 45, 0, 0), (33, 1, 3, 1, 0, 0), (34, 19, 0, 0, 0, 0), (35, 23, 1, 0, 0, 0), (36, 23, 3, 25, 0, 100000), (39, 44, 5647, 193, 3, 0), (42, 28, 1, 48, 0, 0), (45, 0, 2, 0, 0, -102), (47, 51, 0, 0, 0, 0), (48, 2, 0, 1, 0, 0), (49, 30, 102, 11, 38, 0), (52, 0, 2, 0, 0, 12), (54, 29, 1, 60, 0, 0), (57, 0, 2, 0, 0, -104), (59, 51, 0, 0, 0, 0), (60, 2, 0, 1, 0, 0), (61, 30, 85, 11, 39, 0), (64, 2, 0, 1, 0, 0), (65, 30, 102, 11, 38, 0), (68, 1, 1, 1, 0, 0), (69, 33, 0, 0, 0, 0), (70, 2, 0, 1, 0, 0), (71, 30, 86, 11, 40, 0), (74, 2, 0, 1, 0, 0), (75, 30, 102, 11, 38, 0), (78, 1, 2, 1, 0, 0), (79, 33, 0, 0, 0, 0), (80, 2, 0, 1, 0, 0), (81, 30, 87, 11, 41, 0), (84, 2, 0, 1, 0, 0), (85, 30, 102, 11, 38, 0), (88, 1, 3, 1, 0, 0), (89, 33, 0, 0, 0, 0), (90, 2, 0, 1, 0, 0), (91, 24, 0, 0, 0, 0), (92, 30, 102, 11, 38, 0), (95, 0, 1, 0, 0, 1), (96, 8, 0, 0, 0, 0), (97, 31, 102, 11, 38, 0), (100, 2, 0, 1, 0, 0), (101, 30, 102, 11, 38, 0), (104, 51, 0, 0, 0, 0)]
def e_in_254 : List (Nat × Instr × Nat) := [(0, .aload_n 0, 1), (1, .getfield 129, 3), (4, .istore_n 1, 1), (5, .aload_n 0, 1), (6, .iconst 0, 1), (7, .putfield 129, 3), (10, .iload_n 1, 1), (11, .ireturn, 1)]
/-- EvenWheelModel.forget()I -/
def e_pg_254 : List (Nat × e_PI) := [(0, 2, 0, 1, 0, 0), (1, 30, 102, 11, 38, 0), (4, 4, 1, 1, 0, 0), (5, 2, 0, 1, 0, 0), (6, 0, 1, 0, 0, 0), (7, 31, 102, 11, 38, 0), (10, 1, 1, 1, 0, 0), (11, 51, 0, 0, 0, 0)]
def e_in_255 : List (Nat × Instr × Nat) := [(0, .iload_n 0, 1), (1, .iload_n 1, 1), (2, .idiv, 1), (3, .istore_n 2, 1), (4, .iload_n 0, 1), (5, .iload_n 1, 1), (6, .irem, 1), (7, .ifCond .eq 30, 3), (10, .iload_n 0, 1), (11, .ifCond .ge 7, 3), (14, .iconst 1, 1), (15, .goto 4, 3), (18, .iconst 0, 1), (19, .iload_n 1, 1), (20, .ifCond .ge 7, 3), (23, .iconst 1, 1), (24, .goto 4, 3), (27, .iconst 0, 1), (28, .if_icmp .eq 9, 3), (31, .iload_n 2, 1), (32, .iconst 1, 1), (33, .isub, 1), (34, .goto 4, 3), (37, .iload_n 2, 1), (38, .ireturn, 1)]
/-- EvenWheelModel.down(II)I -/
def e_pg_255 : List (Nat × e_PI) := [(0, 1, 0, 1, 0, 0), (1, 1, 1, 1, 0, 0), (2, 12, 0, 0, 0, 0), (3, 4, 2, 1, 0, 0), (4, 1, 0, 1, 0, 0), (5, 1, 1, 1, 0, 0), (6, 13, 0, 0, 0, 0), (7, 28, 0, 37, 0, 0), (10, 1, 0, 1, 0, 0), (11, 28, 3, 18, 0, 0), (14, 0, 1, 0, 0, 1), (15, 27, 19, 0, 0, 0), (18, 0, 1, 0, 0, 0), (19, 1, 1, 1, 0, 0), (20, 28, 3, 27, 0, 0), (23, 0, 1, 0, 0, 1), (24, 27, 28, 0, 0, 0), (27, 0, 1, 0, 0, 0), (28, 29, 0, 37, 0, 0), (31, 1, 2, 1, 0, 0), (32, 0, 1, 0, 0, 1), (33, 9, 0, 0, 0, 0), (34, 27, 38, 0, 0, 0), (37, 1, 2, 1, 0, 0), (38, 51, 0, 0, 0, 0)]
def e_in_256 : List (Nat × Instr × Nat) := [(0, .iload_n 0, 1), (1, .ineg, 1), (2, .iload_n 1, 1), (3, .invokestatic 268, 3), (6, .ineg, 1), (7, .ireturn, 1)]
/-- EvenWheelModel.upward(II)I -/
def e_pg_256 : List (Nat × e_PI) := [(0, 1, 0, 1, 0, 0), (1, 11, 0, 0, 0, 0), (2, 1, 1, 1, 0, 0), (3, 44, 6047, 255, 2, 0), (6, 11, 0, 0, 0, 0), (7, 51, 0, 0, 0, 0)]
def e_in_257 : List (Nat × Instr × Nat) := [(0, .aload_n 0, 1), (1, .getfield 74, 3), (4, .iload_n 2, 1), (5, .iaload, 1), (6, .aload_n 0, 1), (7, .getfield 77, 3), (10, .iload_n 2, 1), (11, .iaload, 1), (12, .isub, 1), (13, .istore_n 3, 1), (14, .aload_n 0, 1), (15, .getfield 74, 3), (18, .iload_n 2, 1), (19, .iaload, 1), (20, .aload_n 0, 1), (21, .getfield 77, 3), (24, .iload_n 2, 1), (25, .iaload, 1), (26, .iadd, 1), (27, .istore 4, 2), (29, .iconst 0, 1), (30, .istore 5, 2), (32, .iload 5, 2), (34, .aload_n 0, 1), (35, .getfield 108, 3), (38, .if_icmp .ge 99, 3), (41, .iload 5, 2), (43, .iload_n 1, 1), (44, .if_icmp .eq 87, 3), (47, .aload_n 0, 1), (48, .iload 5, 2), (50, .aload_n 0, 1), (51, .getfield 71, 3), (54, .iload_n 2, 1), (55, .iaload, 1), (56, .iadd, 1), (57, .aload_n 0, 1), (58, .getfield 108, 3), (61, .irem, 1), (62, .invokevirtual 140, 3), (65, .istore 6, 2), (67, .iload_n 3, 1), (68, .iload 6, 2), (70, .ifCond .le 16, 3), (73, .iload 6, 2), (75, .aload_n 0, 1), (76, .getfield 83, 3), (79, .iload 5, 2), (81, .iaload, 1), (82, .imul, 1), (83, .goto 13, 3), (86, .iload 6, 2), (88, .aload_n 0, 1), (89, .getfield 80, 3), (92, .iload 5, 2), (94, .iaload, 1), (95, .imul, 1), (96, .isub, 1), (97, .istore_n 3, 1), (98, .iload 4, 2), (100, .iload 6, 2), (102, .ifCond .le 16, 3), (105, .iload 6, 2), (107, .aload_n 0, 1), (108, .getfield 80, 3), (111, .iload 5, 2), (113, .iaload, 1), (114, .imul, 1), (115, .goto 13, 3), (118, .iload 6, 2), (120, .aload_n 0, 1), (121, .getfield 83, 3), (124, .iload 5, 2), (126, .iaload, 1), (127, .imul, 1), (128, .isub, 1), (129, .istore 4, 2), (131, .iinc 5 1, 3), (134, .goto (-102), 3), (137, .aload_n 0, 1), (138, .iload_n 1, 1), (139, .aload_n 0, 1), (140, .getfield 71, 3), (143, .iload_n 2, 1), (144, .iaload, 1), (145, .iadd, 1), (146, .aload_n 0, 1), (147, .getfield 108, 3), (150, .irem, 1), (151, .invokevirtual 140, 3), (154, .istore 5, 2), (156, .iload 5, 2), (158, .ifCond .ne 18, 3), (161, .iload_n 3, 1), (162, .ifCond .gt 12, 3), (165, .iload 4, 2), (167, .ifCond .lt 7, 3), (170, .iconst 1, 1), (171, .goto 4, 3), (174, .iconst 0, 1), (175, .ireturn, 1), (176, .iload 5, 2), (178, .ifCond .le 12, 3), (181, .iload_n 3, 1), (182, .iload 5, 2), (184, .invokestatic 271, 3), (187, .goto 10, 3), (190, .iload 4, 2), (192, .iload 5, 2), (194, .invokestatic 271, 3), (197, .istore 6, 2), (199, .iload 5, 2), (201, .ifCond .le 13, 3), (204, .iload 4, 2), (206, .iload 5, 2), (208, .invokestatic 268, 3), (211, .goto 9, 3), (214, .iload_n 3, 1), (215, .iload 5, 2), (217, .invokestatic 268, 3), (220, .istore 7, 2), (222, .aload_n 0, 1), (223, .getfield 80, 3), (226, .iload_n 1, 1), (227, .iload 6, 2), (229, .aload_n 0, 1), (230, .getfield 80, 3), (233, .iload_n 1, 1), (234, .iaload, 1), (235, .if_icmp .le 8, 3), (238, .iload 6, 2), (240, .goto 9, 3), (243, .aload_n 0, 1), (244, .getfield 80, 3), (247, .iload_n 1, 1), (248, .iaload, 1), (249, .iastore, 1), (250, .aload_n 0, 1), (251, .getfield 83, 3), (254, .iload_n 1, 1), (255, .iload 7, 2), (257, .aload_n 0, 1), (258, .getfield 83, 3), (261, .iload_n 1, 1), (262, .iaload, 1), (263, .if_icmp .ge 8, 3), (266, .iload 7, 2), (268, .goto 9, 3), (271, .aload_n 0, 1), (272, .getfield 83, 3), (275, .iload_n 1, 1), (276, .iaload, 1), (277, .iastore, 1), (278, .aload_n 0, 1), (279, .getfield 80, 3), (282, .iload_n 1, 1), (283, .iaload, 1), (284, .aload_n 0, 1), (285, .getfield 83, 3), (288, .iload_n 1, 1), (289, .iaload, 1), (290, .if_icmp .gt 7, 3), (293, .iconst 1, 1), (294, .goto 4, 3), (297, .iconst 0, 1), (298, .ireturn, 1)]
/-- EvenWheelModel.narrow(II)Z -/
def e_pg_257 : List (Nat × e_PI) := [(0, 2, 0, 1, 0, 0), (1, 30, 86, 11, 40, 0), (4, 1, 2, 1, 0, 0), (5, 32, 0, 0, 0, 0), (6, 2, 0, 1, 0, 0), (7, 30, 87, 11, 41, 0), (10, 1, 2, 1, 0, 0), (11, 32, 0, 0, 0, 0), (12, 9, 0, 0, 0, 0), (13, 4, 3, 1, 0, 0), (14, 2, 0, 1, 0, 0), (15, 30, 86, 11, 40, 0), (18, 1, 2, 1, 0, 0), (19, 32, 0, 0, 0, 0), (20, 2, 0, 1, 0, 0), (21, 30, 87, 11, 41, 0), (24, 1, 2, 1, 0, 0), (25, 32, 0, 0, 0, 0), (26, 8, 0, 0, 0, 0), (27, 4, 4, 2, 0, 0), (29, 0, 1, 0, 0, 0), (30, 4, 5, 2, 0, 0), (32, 1, 5, 2, 0, 0), (34, 2, 0, 1, 0, 0), (35, 30, 95, 11, 0, 0), (38, 29, 3, 137, 0, 0), (41, 1, 5, 2, 0, 0), (43, 1, 1, 1, 0, 0), (44, 29, 0, 131, 0, 0), (47, 2, 0, 1, 0, 0), (48, 1, 5, 2, 0, 0), (50, 2, 0, 1, 0, 0), (51, 30, 85, 11, 39, 0), (54, 1, 2, 1, 0, 0), (55, 32, 0, 0, 0, 0), (56, 8, 0, 0, 0, 0), (57, 2, 0, 1, 0, 0), (58, 30, 95, 11, 0, 0), (61, 13, 0, 0, 0, 0), (62, 44, 5659, 198, 2, 0), (65, 4, 6, 2, 0, 0), (67, 1, 3, 1, 0, 0), (68, 1, 6, 2, 0, 0), (70, 28, 5, 86, 0, 0), (73, 1, 6, 2, 0, 0), (75, 2, 0, 1, 0, 0), (76, 30, 89, 11, 43, 0), (79, 1, 5, 2, 0, 0), (81, 32, 0, 0, 0, 0), (82, 10, 0, 0, 0, 0), (83, 27, 96, 0, 0, 0), (86, 1, 6, 2, 0, 0), (88, 2, 0, 1, 0, 0), (89, 30, 88, 11, 42, 0), (92, 1, 5, 2, 0, 0), (94, 32, 0, 0, 0, 0), (95, 10, 0, 0, 0, 0), (96, 9, 0, 0, 0, 0), (97, 4, 3, 1, 0, 0), (98, 1, 4, 2, 0, 0), (100, 1, 6, 2, 0, 0), (102, 28, 5, 118, 0, 0), (105, 1, 6, 2, 0, 0), (107, 2, 0, 1, 0, 0), (108, 30, 88, 11, 42, 0), (111, 1, 5, 2, 0, 0), (113, 32, 0, 0, 0, 0), (114, 10, 0, 0, 0, 0), (115, 27, 128, 0, 0, 0), (118, 1, 6, 2, 0, 0), (120, 2, 0, 1, 0, 0), (121, 30, 89, 11, 43, 0), (124, 1, 5, 2, 0, 0), (126, 32, 0, 0, 0, 0), (127, 10, 0, 0, 0, 0), (128, 9, 0, 0, 0, 0), (129, 4, 4, 2, 0, 0), (131, 7, 5, 0, 0, 1), (134, 27, 32, 0, 0, 0), (137, 2, 0, 1, 0, 0), (138, 1, 1, 1, 0, 0), (139, 2, 0, 1, 0, 0), (140, 30, 85, 11, 39, 0), (143, 1, 2, 1, 0, 0), (144, 32, 0, 0, 0, 0), (145, 8, 0, 0, 0, 0), (146, 2, 0, 1, 0, 0), (147, 30, 95, 11, 0, 0), (150, 13, 0, 0, 0, 0), (151, 44, 5659, 198, 2, 0), (154, 4, 5, 2, 0, 0), (156, 1, 5, 2, 0, 0), (158, 28, 1, 176, 0, 0), (161, 1, 3, 1, 0, 0), (162, 28, 4, 174, 0, 0), (165, 1, 4, 2, 0, 0), (167, 28, 2, 174, 0, 0), (170, 0, 1, 0, 0, 1), (171, 27, 175, 0, 0, 0), (174, 0, 1, 0, 0, 0), (175, 52, 0, 0, 0, 0), (176, 1, 5, 2, 0, 0), (178, 28, 5, 190, 0, 0), (181, 1, 3, 1, 0, 0), (182, 1, 5, 2, 0, 0), (184, 44, 6063, 256, 2, 0), (187, 27, 197, 0, 0, 0), (190, 1, 4, 2, 0, 0), (192, 1, 5, 2, 0, 0), (194, 44, 6063, 256, 2, 0), (197, 4, 6, 2, 0, 0), (199, 1, 5, 2, 0, 0), (201, 28, 5, 214, 0, 0), (204, 1, 4, 2, 0, 0), (206, 1, 5, 2, 0, 0), (208, 44, 6047, 255, 2, 0), (211, 27, 220, 0, 0, 0), (214, 1, 3, 1, 0, 0), (215, 1, 5, 2, 0, 0), (217, 44, 6047, 255, 2, 0), (220, 4, 7, 2, 0, 0), (222, 2, 0, 1, 0, 0), (223, 30, 88, 11, 42, 0), (226, 1, 1, 1, 0, 0), (227, 1, 6, 2, 0, 0), (229, 2, 0, 1, 0, 0), (230, 30, 88, 11, 42, 0), (233, 1, 1, 1, 0, 0), (234, 32, 0, 0, 0, 0), (235, 29, 5, 243, 0, 0), (238, 1, 6, 2, 0, 0), (240, 27, 249, 0, 0, 0), (243, 2, 0, 1, 0, 0), (244, 30, 88, 11, 42, 0), (247, 1, 1, 1, 0, 0), (248, 32, 0, 0, 0, 0), (249, 33, 0, 0, 0, 0), (250, 2, 0, 1, 0, 0), (251, 30, 89, 11, 43, 0), (254, 1, 1, 1, 0, 0), (255, 1, 7, 2, 0, 0), (257, 2, 0, 1, 0, 0), (258, 30, 89, 11, 43, 0), (261, 1, 1, 1, 0, 0), (262, 32, 0, 0, 0, 0), (263, 29, 3, 271, 0, 0), (266, 1, 7, 2, 0, 0), (268, 27, 277, 0, 0, 0), (271, 2, 0, 1, 0, 0), (272, 30, 89, 11, 43, 0), (275, 1, 1, 1, 0, 0), (276, 32, 0, 0, 0, 0), (277, 33, 0, 0, 0, 0), (278, 2, 0, 1, 0, 0), (279, 30, 88, 11, 42, 0), (282, 1, 1, 1, 0, 0), (283, 32, 0, 0, 0, 0), (284, 2, 0, 1, 0, 0), (285, 30, 89, 11, 43, 0), (288, 1, 1, 1, 0, 0), (289, 32, 0, 0, 0, 0), (290, 29, 4, 297, 0, 0), (293, 0, 1, 0, 0, 1), (294, 27, 298, 0, 0, 0), (297, 0, 1, 0, 0, 0), (298, 52, 0, 0, 0, 0)]
def e_in_258 : List (Nat × Instr × Nat) := [(0, .iconst 0, 1), (1, .istore_n 1, 1), (2, .iload_n 1, 1), (3, .aload_n 0, 1), (4, .getfield 108, 3), (7, .if_icmp .ge 33, 3), (10, .aload_n 0, 1), (11, .getfield 80, 3), (14, .iload_n 1, 1), (15, .aload_n 0, 1), (16, .getfield 65, 3), (19, .iload_n 1, 1), (20, .iaload, 1), (21, .iastore, 1), (22, .aload_n 0, 1), (23, .getfield 83, 3), (26, .iload_n 1, 1), (27, .aload_n 0, 1), (28, .getfield 68, 3), (31, .iload_n 1, 1), (32, .iaload, 1), (33, .iastore, 1), (34, .iinc 1 1, 3), (37, .goto (-35), 3), (40, .iconst 0, 1), (41, .istore_n 1, 1), (42, .iload_n 1, 1), (43, .aload_n 0, 1), (44, .getfield 129, 3), (47, .if_icmp .ge 36, 3), (50, .iconst 0, 1), (51, .istore_n 2, 1), (52, .iload_n 2, 1), (53, .aload_n 0, 1), (54, .getfield 108, 3), (57, .if_icmp .ge 20, 3), (60, .aload_n 0, 1), (61, .iload_n 2, 1), (62, .iload_n 1, 1), (63, .invokevirtual 274, 3), (66, .ifCond .ne 5, 3), (69, .iload_n 1, 1), (70, .ireturn, 1), (71, .iinc 2 1, 3), (74, .goto (-22), 3), (77, .iinc 1 1, 3), (80, .goto (-38), 3), (83, .iconst (-1), 1), (84, .ireturn, 1)]
/-- EvenWheelModel.narrowAll()I -/
def e_pg_258 : List (Nat × e_PI) := [(0, 0, 1, 0, 0, 0), (1, 4, 1, 1, 0, 0), (2, 1, 1, 1, 0, 0), (3, 2, 0, 1, 0, 0), (4, 30, 95, 11, 0, 0), (7, 29, 3, 40, 0, 0), (10, 2, 0, 1, 0, 0), (11, 30, 88, 11, 42, 0), (14, 1, 1, 1, 0, 0), (15, 2, 0, 1, 0, 0), (16, 30, 83, 11, 36, 0), (19, 1, 1, 1, 0, 0), (20, 32, 0, 0, 0, 0), (21, 33, 0, 0, 0, 0), (22, 2, 0, 1, 0, 0), (23, 30, 89, 11, 43, 0), (26, 1, 1, 1, 0, 0), (27, 2, 0, 1, 0, 0), (28, 30, 84, 11, 37, 0), (31, 1, 1, 1, 0, 0), (32, 32, 0, 0, 0, 0), (33, 33, 0, 0, 0, 0), (34, 7, 1, 0, 0, 1), (37, 27, 2, 0, 0, 0), (40, 0, 1, 0, 0, 0), (41, 4, 1, 1, 0, 0), (42, 1, 1, 1, 0, 0), (43, 2, 0, 1, 0, 0), (44, 30, 102, 11, 38, 0), (47, 29, 3, 83, 0, 0), (50, 0, 1, 0, 0, 0), (51, 4, 2, 1, 0, 0), (52, 1, 2, 1, 0, 0), (53, 2, 0, 1, 0, 0), (54, 30, 95, 11, 0, 0), (57, 29, 3, 77, 0, 0), (60, 2, 0, 1, 0, 0), (61, 1, 2, 1, 0, 0), (62, 1, 1, 1, 0, 0), (63, 44, 6075, 257, 3, 0), (66, 28, 1, 71, 0, 0), (69, 1, 1, 1, 0, 0), (70, 51, 0, 0, 0, 0), (71, 7, 2, 0, 0, 1), (74, 27, 52, 0, 0, 0), (77, 7, 1, 0, 0, 1), (80, 27, 42, 0, 0, 0), (83, 0, 1, 0, 0, -1), (84, 51, 0, 0, 0, 0)]
def e_in_259 : List (Nat × Instr × Nat) := [(0, .aload_n 0, 1), (1, .iload_n 1, 1), (2, .invokevirtual 178, 3), (5, .ifCond .ne 6, 3), (8, .bipush (-101), 2), (10, .ireturn, 1), (11, .iload_n 2, 1), (12, .i2l, 1), (13, .lconst 0, 1), (14, .lconst 1, 1), (15, .invokestatic 136, 3), (18, .ifCond .ne 6, 3), (21, .bipush (-102), 2), (23, .ireturn, 1), (24, .aload_n 0, 1), (25, .invokevirtual 278, 3), (28, .iconst (-1), 1), (29, .if_icmp .eq 7, 3), (32, .iconst (-1), 1), (33, .goto 22, 3), (36, .iload_n 2, 1), (37, .ifCond .ne 12, 3), (40, .aload_n 0, 1), (41, .getfield 80, 3), (44, .iload_n 1, 1), (45, .iaload, 1), (46, .goto 9, 3), (49, .aload_n 0, 1), (50, .getfield 83, 3), (53, .iload_n 1, 1), (54, .iaload, 1), (55, .ireturn, 1)]
/-- EvenWheelModel.fit(II)I -/
def e_pg_259 : List (Nat × e_PI) := [(0, 2, 0, 1, 0, 0), (1, 1, 1, 1, 0, 0), (2, 44, 5787, 212, 2, 0), (5, 28, 1, 11, 0, 0), (8, 0, 2, 0, 0, -101), (10, 51, 0, 0, 0, 0), (11, 1, 2, 1, 0, 0), (12, 19, 0, 0, 0, 0), (13, 23, 1, 0, 0, 0), (14, 23, 1, 0, 0, 1), (15, 44, 5647, 193, 3, 0), (18, 28, 1, 24, 0, 0), (21, 0, 2, 0, 0, -102), (23, 51, 0, 0, 0, 0), (24, 2, 0, 1, 0, 0), (25, 44, 6091, 258, 1, 0), (28, 0, 1, 0, 0, -1), (29, 29, 0, 36, 0, 0), (32, 0, 1, 0, 0, -1), (33, 27, 55, 0, 0, 0), (36, 1, 2, 1, 0, 0), (37, 28, 1, 49, 0, 0), (40, 2, 0, 1, 0, 0), (41, 30, 88, 11, 42, 0), (44, 1, 1, 1, 0, 0), (45, 32, 0, 0, 0, 0), (46, 27, 55, 0, 0, 0), (49, 2, 0, 1, 0, 0), (50, 30, 89, 11, 43, 0), (53, 1, 1, 1, 0, 0), (54, 32, 0, 0, 0, 0), (55, 51, 0, 0, 0, 0)]
def e_in_260 : List (Nat × Instr × Nat) := [(0, .aload_n 0, 1), (1, .invokevirtual 278, 3), (4, .ireturn, 1)]
/-- EvenWheelModel.breaks()I -/
def e_pg_260 : List (Nat × e_PI) := [(0, 2, 0, 1, 0, 0), (1, 44, 6091, 258, 1, 0), (4, 51, 0, 0, 0, 0)]
def e_in_261 : List (Nat × Instr × Nat) := [(0, .aload_n 0, 1), (1, .invokevirtual 278, 3), (4, .iconst (-1), 1), (5, .if_icmp .eq 5, 3), (8, .iconst (-1), 1), (9, .ireturn, 1), (10, .iconst 0, 1), (11, .istore_n 1, 1), (12, .iconst 0, 1), (13, .istore_n 2, 1), (14, .iload_n 2, 1), (15, .aload_n 0, 1), (16, .getfield 108, 3), (19, .if_icmp .ge 44, 3), (22, .iload_n 1, 1), (23, .aload_n 0, 1), (24, .getfield 16, 3), (27, .iload_n 2, 1), (28, .iaload, 1), (29, .i2l, 1), (30, .aload_n 0, 1), (31, .getfield 80, 3), (34, .iload_n 2, 1), (35, .iaload, 1), (36, .i2l, 1), (37, .aload_n 0, 1), (38, .getfield 83, 3), (41, .iload_n 2, 1), (42, .iaload, 1), (43, .i2l, 1), (44, .invokestatic 136, 3), (47, .ifCond .eq 7, 3), (50, .iconst 1, 1), (51, .goto 4, 3), (54, .iconst 0, 1), (55, .iadd, 1), (56, .istore_n 1, 1), (57, .iinc 2 1, 3), (60, .goto (-46), 3), (63, .iload_n 1, 1), (64, .ireturn, 1)]
/-- EvenWheelModel.agree()I -/
def e_pg_261 : List (Nat × e_PI) := [(0, 2, 0, 1, 0, 0), (1, 44, 6091, 258, 1, 0), (4, 0, 1, 0, 0, -1), (5, 29, 0, 10, 0, 0), (8, 0, 1, 0, 0, -1), (9, 51, 0, 0, 0, 0), (10, 0, 1, 0, 0, 0), (11, 4, 1, 1, 0, 0), (12, 0, 1, 0, 0, 0), (13, 4, 2, 1, 0, 0), (14, 1, 2, 1, 0, 0), (15, 2, 0, 1, 0, 0), (16, 30, 95, 11, 0, 0), (19, 29, 3, 63, 0, 0), (22, 1, 1, 1, 0, 0), (23, 2, 0, 1, 0, 0), (24, 30, 67, 11, 11, 0), (27, 1, 2, 1, 0, 0), (28, 32, 0, 0, 0, 0), (29, 19, 0, 0, 0, 0), (30, 2, 0, 1, 0, 0), (31, 30, 88, 11, 42, 0), (34, 1, 2, 1, 0, 0), (35, 32, 0, 0, 0, 0), (36, 19, 0, 0, 0, 0), (37, 2, 0, 1, 0, 0), (38, 30, 89, 11, 43, 0), (41, 1, 2, 1, 0, 0), (42, 32, 0, 0, 0, 0), (43, 19, 0, 0, 0, 0), (44, 44, 5647, 193, 3, 0), (47, 28, 0, 54, 0, 0), (50, 0, 1, 0, 0, 1), (51, 27, 55, 0, 0, 0), (54, 0, 1, 0, 0, 0), (55, 8, 0, 0, 0, 0), (56, 4, 1, 1, 0, 0), (57, 7, 2, 0, 0, 1), (60, 27, 14, 0, 0, 0), (63, 1, 1, 1, 0, 0), (64, 51, 0, 0, 0, 0)]
def e_in_262 : List (Nat × Instr × Nat) := [(0, .ldc2_w 281, 3), (3, .lstore_n 1, 1), (4, .ldc2_w 283, 3), (7, .lload_n 1, 1), (8, .lmul, 1), (9, .aload_n 0, 1), (10, .getfield 108, 3), (13, .i2l, 1), (14, .ladd, 1), (15, .lstore_n 1, 1), (16, .ldc2_w 283, 3), (19, .lload_n 1, 1), (20, .lmul, 1), (21, .aload_n 0, 1), (22, .getfield 111, 3), (25, .i2l, 1), (26, .ladd, 1), (27, .lstore_n 1, 1), (28, .ldc2_w 283, 3), (31, .lload_n 1, 1), (32, .lmul, 1), (33, .aload_n 0, 1), (34, .getfield 114, 3), (37, .i2l, 1), (38, .ladd, 1), (39, .lstore_n 1, 1), (40, .ldc2_w 283, 3), (43, .lload_n 1, 1), (44, .lmul, 1), (45, .aload_n 0, 1), (46, .getfield 117, 3), (49, .i2l, 1), (50, .ladd, 1), (51, .lstore_n 1, 1), (52, .ldc2_w 283, 3), (55, .lload_n 1, 1), (56, .lmul, 1), (57, .aload_n 0, 1), (58, .getfield 120, 3), (61, .i2l, 1), (62, .ladd, 1), (63, .lstore_n 1, 1), (64, .ldc2_w 283, 3), (67, .lload_n 1, 1), (68, .lmul, 1), (69, .aload_n 0, 1), (70, .getfield 100, 3), (73, .ifCond .eq 7, 3), (76, .iconst 1, 1), (77, .goto 4, 3), (80, .iconst 0, 1), (81, .i2l, 1), (82, .ladd, 1), (83, .lstore_n 1, 1), (84, .ldc2_w 283, 3), (87, .lload_n 1, 1), (88, .lmul, 1), (89, .aload_n 0, 1), (90, .getfield 87, 3), (93, .i2l, 1), (94, .ladd, 1), (95, .lstore_n 1, 1), (96, .ldc2_w 283, 3), (99, .lload_n 1, 1), (100, .lmul, 1), (101, .aload_n 0, 1), (102, .getfield 91, 3), (105, .i2l, 1), (106, .ladd, 1), (107, .lstore_n 1, 1), (108, .ldc2_w 283, 3), (111, .lload_n 1, 1), (112, .lmul, 1), (113, .aload_n 0, 1), (114, .getfield 94, 3), (117, .i2l, 1), (118, .ladd, 1), (119, .lstore_n 1, 1), (120, .ldc2_w 283, 3), (123, .lload_n 1, 1), (124, .lmul, 1), (125, .aload_n 0, 1), (126, .getfield 97, 3), (129, .i2l, 1), (130, .ladd, 1), (131, .lstore_n 1, 1), (132, .iconst 0, 1), (133, .istore_n 3, 1), (134, .iload_n 3, 1), (135, .aload_n 0, 1), (136, .getfield 120, 3), (139, .if_icmp .ge 40, 3), (142, .iconst 0, 1), (143, .istore 4, 2), (145, .iload 4, 2), (147, .bipush 6, 2), (149, .if_icmp .ge 24, 3), (152, .ldc2_w 283, 3), (155, .lload_n 1, 1), (156, .lmul, 1), (157, .aload_n 0, 1), (158, .iload_n 3, 1), (159, .iload 4, 2), (161, .invokevirtual 212, 3), (164, .i2l, 1), (165, .ladd, 1), (166, .lstore_n 1, 1), (167, .iinc 4 1, 3), (170, .goto (-25), 3), (173, .iinc 3 1, 3), (176, .goto (-42), 3), (179, .iconst 0, 1), (180, .istore_n 3, 1), (181, .iload_n 3, 1), (182, .aload_n 0, 1), (183, .getfield 123, 3), (186, .if_icmp .ge 23, 3), (189, .ldc2_w 283, 3), (192, .lload_n 1, 1), (193, .lmul, 1), (194, .aload_n 0, 1), (195, .getfield 38, 3), (198, .iload_n 3, 1), (199, .iaload, 1), (200, .i2l, 1), (201, .ladd, 1), (202, .lstore_n 1, 1), (203, .iinc 3 1, 3), (206, .goto (-25), 3), (209, .iconst 0, 1), (210, .istore_n 3, 1), (211, .iload_n 3, 1), (212, .aload_n 0, 1), (213, .getfield 108, 3), (216, .if_icmp .ge 49, 3), (219, .iconst 0, 1), (220, .istore 4, 2), (222, .iload 4, 2), (224, .aload_n 0, 1), (225, .getfield 13, 3), (228, .iload_n 3, 1), (229, .iaload, 1), (230, .if_icmp .ge 29, 3), (233, .ldc2_w 283, 3), (236, .lload_n 1, 1), (237, .lmul, 1), (238, .aload_n 0, 1), (239, .getfield 7, 3), (242, .bipush 6, 2), (244, .iload_n 3, 1), (245, .imul, 1), (246, .iload 4, 2), (248, .iadd, 1), (249, .iaload, 1), (250, .i2l, 1), (251, .ladd, 1), (252, .lstore_n 1, 1), (253, .iinc 4 1, 3), (256, .goto (-34), 3), (259, .iinc 3 1, 3), (262, .goto (-51), 3), (265, .iconst 0, 1), (266, .istore_n 3, 1), (267, .iload_n 3, 1), (268, .aload_n 0, 1), (269, .getfield 126, 3), (272, .if_icmp .ge 37, 3), (275, .ldc2_w 283, 3), (278, .lload_n 1, 1), (279, .lmul, 1), (280, .aload_n 0, 1), (281, .getfield 53, 3), (284, .iload_n 3, 1), (285, .iaload, 1), (286, .i2l, 1), (287, .ladd, 1), (288, .lstore_n 1, 1), (289, .ldc2_w 283, 3), (292, .lload_n 1, 1), (293, .lmul, 1), (294, .aload_n 0, 1), (295, .getfield 56, 3), (298, .iload_n 3, 1), (299, .iaload, 1), (300, .i2l, 1), (301, .ladd, 1), (302, .lstore_n 1, 1), (303, .iinc 3 1, 3), (306, .goto (-39), 3), (309, .iconst 0, 1), (310, .istore_n 3, 1), (311, .iload_n 3, 1), (312, .aload_n 0, 1), (313, .getfield 108, 3), (316, .if_icmp .ge 37, 3), (319, .ldc2_w 283, 3), (322, .lload_n 1, 1), (323, .lmul, 1), (324, .aload_n 0, 1), (325, .getfield 65, 3), (328, .iload_n 3, 1), (329, .iaload, 1), (330, .i2l, 1), (331, .ladd, 1), (332, .lstore_n 1, 1), (333, .ldc2_w 283, 3), (336, .lload_n 1, 1), (337, .lmul, 1), (338, .aload_n 0, 1), (339, .getfield 68, 3), (342, .iload_n 3, 1), (343, .iaload, 1), (344, .i2l, 1), (345, .ladd, 1), (346, .lstore_n 1, 1), (347, .iinc 3 1, 3), (350, .goto (-39), 3), (353, .iconst 0, 1), (354, .istore_n 3, 1), (355, .iload_n 3, 1), (356, .aload_n 0, 1), (357, .getfield 129, 3), (360, .if_icmp .ge 51, 3), (363, .ldc2_w 283, 3), (366, .lload_n 1, 1), (367, .lmul, 1), (368, .aload_n 0, 1), (369, .getfield 71, 3), (372, .iload_n 3, 1), (373, .iaload, 1), (374, .i2l, 1), (375, .ladd, 1), (376, .lstore_n 1, 1), (377, .ldc2_w 283, 3), (380, .lload_n 1, 1), (381, .lmul, 1), (382, .aload_n 0, 1), (383, .getfield 74, 3), (386, .iload_n 3, 1), (387, .iaload, 1), (388, .i2l, 1), (389, .ladd, 1), (390, .lstore_n 1, 1), (391, .ldc2_w 283, 3), (394, .lload_n 1, 1), (395, .lmul, 1), (396, .aload_n 0, 1), (397, .getfield 77, 3), (400, .iload_n 3, 1), (401, .iaload, 1), (402, .i2l, 1), (403, .ladd, 1), (404, .lstore_n 1, 1), (405, .iinc 3 1, 3), (408, .goto (-53), 3), (411, .lload_n 1, 1), (412, .lreturn, 1)]
/-- EvenWheelModel.digest()J -/
def e_pg_262 : List (Nat × e_PI) := [(0, 23, 3, 26, 0, 211), (3, 6, 1, 1, 0, 0), (4, 23, 3, 27, 0, 31), (7, 3, 1, 1, 0, 0), (8, 21, 0, 0, 0, 0), (9, 2, 0, 1, 0, 0), (10, 30, 95, 11, 0, 0), (13, 19, 0, 0, 0, 0), (14, 20, 0, 0, 0, 0), (15, 6, 1, 1, 0, 0), (16, 23, 3, 27, 0, 31), (19, 3, 1, 1, 0, 0), (20, 21, 0, 0, 0, 0), (21, 2, 0, 1, 0, 0), (22, 30, 96, 11, 1, 0), (25, 19, 0, 0, 0, 0), (26, 20, 0, 0, 0, 0), (27, 6, 1, 1, 0, 0), (28, 23, 3, 27, 0, 31), (31, 3, 1, 1, 0, 0), (32, 21, 0, 0, 0, 0), (33, 2, 0, 1, 0, 0), (34, 30, 97, 11, 2, 0), (37, 19, 0, 0, 0, 0), (38, 20, 0, 0, 0, 0), (39, 6, 1, 1, 0, 0), (40, 23, 3, 27, 0, 31), (43, 3, 1, 1, 0, 0), (44, 21, 0, 0, 0, 0), (45, 2, 0, 1, 0, 0), (46, 30, 98, 11, 3, 0), (49, 19, 0, 0, 0, 0), (50, 20, 0, 0, 0, 0), (51, 6, 1, 1, 0, 0), (52, 23, 3, 27, 0, 31), (55, 3, 1, 1, 0, 0), (56, 21, 0, 0, 0, 0), (57, 2, 0, 1, 0, 0), (58, 30, 99, 11, 12, 0), (61, 19, 0, 0, 0, 0), (62, 20, 0, 0, 0, 0), (63, 6, 1, 1, 0, 0), (64, 23, 3, 27, 0, 31), (67, 3, 1, 1, 0, 0), (68, 21, 0, 0, 0, 0), (69, 2, 0, 1, 0, 0), (70, 30, 94, 11, 8, 0), (73, 28, 0, 80, 0, 0), (76, 0, 1, 0, 0, 1), (77, 27, 81, 0, 0, 0), (80, 0, 1, 0, 0, 0), (81, 19, 0, 0, 0, 0), (82, 20, 0, 0, 0, 0), (83, 6, 1, 1, 0, 0), (84, 23, 3, 27, 0, 31), (87, 3, 1, 1, 0, 0), (88, 21, 0, 0, 0, 0), (89, 2, 0, 1, 0, 0), (90, 30, 90, 11, 4, 0), (93, 19, 0, 0, 0, 0), (94, 20, 0, 0, 0, 0), (95, 6, 1, 1, 0, 0), (96, 23, 3, 27, 0, 31), (99, 3, 1, 1, 0, 0), (100, 21, 0, 0, 0, 0), (101, 2, 0, 1, 0, 0), (102, 30, 91, 11, 5, 0), (105, 19, 0, 0, 0, 0), (106, 20, 0, 0, 0, 0), (107, 6, 1, 1, 0, 0), (108, 23, 3, 27, 0, 31), (111, 3, 1, 1, 0, 0), (112, 21, 0, 0, 0, 0), (113, 2, 0, 1, 0, 0), (114, 30, 92, 11, 6, 0), (117, 19, 0, 0, 0, 0), (118, 20, 0, 0, 0, 0), (119, 6, 1, 1, 0, 0), (120, 23, 3, 27, 0, 31), (123, 3, 1, 1, 0, 0), (124, 21, 0, 0, 0, 0), (125, 2, 0, 1, 0, 0), (126, 30, 93, 11, 7, 0), (129, 19, 0, 0, 0, 0), (130, 20, 0, 0, 0, 0), (131, 6, 1, 1, 0, 0), (132, 0, 1, 0, 0, 0), (133, 4, 3, 1, 0, 0), (134, 1, 3, 1, 0, 0), (135, 2, 0, 1, 0, 0), (136, 30, 99, 11, 12, 0), (139, 29, 3, 179, 0, 0), (142, 0, 1, 0, 0, 0), (143, 4, 4, 2, 0, 0), (145, 1, 4, 2, 0, 0), (147, 0, 2, 0, 0, 6), (149, 29, 3, 173, 0, 0), (152, 23, 3, 27, 0, 31), (155, 3, 1, 1, 0, 0), (156, 21, 0, 0, 0, 0), (157, 2, 0, 1, 0, 0), (158, 1, 3, 1, 0, 0), (159, 1, 4, 2, 0, 0), (161, 44, 5915, 233, 3, 0), (164, 19, 0, 0, 0, 0), (165, 20, 0, 0, 0, 0), (166, 6, 1, 1, 0, 0), (167, 7, 4, 0, 0, 1), (170, 27, 145, 0, 0, 0), (173, 7, 3, 0, 0, 1), (176, 27, 134, 0, 0, 0), (179, 0, 1, 0, 0, 0), (180, 4, 3, 1, 0, 0), (181, 1, 3, 1, 0, 0), (182, 2, 0, 1, 0, 0), (183, 30, 100, 11, 19, 0), (186, 29, 3, 209, 0, 0), (189, 23, 3, 27, 0, 31), (192, 3, 1, 1, 0, 0), (193, 21, 0, 0, 0, 0), (194, 2, 0, 1, 0, 0), (195, 30, 74, 11, 20, 0), (198, 1, 3, 1, 0, 0), (199, 32, 0, 0, 0, 0), (200, 19, 0, 0, 0, 0), (201, 20, 0, 0, 0, 0), (202, 6, 1, 1, 0, 0), (203, 7, 3, 0, 0, 1), (206, 27, 181, 0, 0, 0), (209, 0, 1, 0, 0, 0), (210, 4, 3, 1, 0, 0), (211, 1, 3, 1, 0, 0), (212, 2, 0, 1, 0, 0), (213, 30, 95, 11, 0, 0), (216, 29, 3, 265, 0, 0), (219, 0, 1, 0, 0, 0), (220, 4, 4, 2, 0, 0), (222, 1, 4, 2, 0, 0), (224, 2, 0, 1, 0, 0), (225, 30, 66, 11, 10, 0), (228, 1, 3, 1, 0, 0), (229, 32, 0, 0, 0, 0), (230, 29, 3, 259, 0, 0), (233, 23, 3, 27, 0, 31), (236, 3, 1, 1, 0, 0), (237, 21, 0, 0, 0, 0), (238, 2, 0, 1, 0, 0), (239, 30, 65, 11, 9, 0), (242, 0, 2, 0, 0, 6), (244, 1, 3, 1, 0, 0), (245, 10, 0, 0, 0, 0), (246, 1, 4, 2, 0, 0), (248, 8, 0, 0, 0, 0), (249, 32, 0, 0, 0, 0), (250, 19, 0, 0, 0, 0), (251, 20, 0, 0, 0, 0), (252, 6, 1, 1, 0, 0), (253, 7, 4, 0, 0, 1), (256, 27, 222, 0, 0, 0), (259, 7, 3, 0, 0, 1), (262, 27, 211, 0, 0, 0), (265, 0, 1, 0, 0, 0), (266, 4, 3, 1, 0, 0), (267, 1, 3, 1, 0, 0), (268, 2, 0, 1, 0, 0), (269, 30, 101, 11, 31, 0), (272, 29, 3, 309, 0, 0), (275, 23, 3, 27, 0, 31), (278, 3, 1, 1, 0, 0), (279, 21, 0, 0, 0, 0), (280, 2, 0, 1, 0, 0), (281, 30, 79, 11, 32, 0), (284, 1, 3, 1, 0, 0), (285, 32, 0, 0, 0, 0), (286, 19, 0, 0, 0, 0), (287, 20, 0, 0, 0, 0), (288, 6, 1, 1, 0, 0), (289, 23, 3, 27, 0, 31), (292, 3, 1, 1, 0, 0), (293, 21, 0, 0, 0, 0), (294, 2, 0, 1, 0, 0), (295, 30, 80, 11, 33, 0), (298, 1, 3, 1, 0, 0), (299, 32, 0, 0, 0, 0), (300, 19, 0, 0, 0, 0), (301, 20, 0, 0, 0, 0), (302, 6, 1, 1, 0, 0), (303, 7, 3, 0, 0, 1), (306, 27, 267, 0, 0, 0), (309, 0, 1, 0, 0, 0), (310, 4, 3, 1, 0, 0), (311, 1, 3, 1, 0, 0), (312, 2, 0, 1, 0, 0), (313, 30, 95, 11, 0, 0), (316, 29, 3, 353, 0, 0), (319, 23, 3, 27, 0, 31), (322, 3, 1, 1, 0, 0), (323, 21, 0, 0, 0, 0), (324, 2, 0, 1, 0, 0), (325, 30, 83, 11, 36, 0), (328, 1, 3, 1, 0, 0), (329, 32, 0, 0, 0, 0), (330, 19, 0, 0, 0, 0), (331, 20, 0, 0, 0, 0), (332, 6, 1, 1, 0, 0), (333, 23, 3, 27, 0, 31), (336, 3, 1, 1, 0, 0), (337, 21, 0, 0, 0, 0), (338, 2, 0, 1, 0, 0), (339, 30, 84, 11, 37, 0), (342, 1, 3, 1, 0, 0), (343, 32, 0, 0, 0, 0), (344, 19, 0, 0, 0, 0), (345, 20, 0, 0, 0, 0), (346, 6, 1, 1, 0, 0), (347, 7, 3, 0, 0, 1), (350, 27, 311, 0, 0, 0), (353, 0, 1, 0, 0, 0), (354, 4, 3, 1, 0, 0), (355, 1, 3, 1, 0, 0), (356, 2, 0, 1, 0, 0), (357, 30, 102, 11, 38, 0), (360, 29, 3, 411, 0, 0), (363, 23, 3, 27, 0, 31), (366, 3, 1, 1, 0, 0), (367, 21, 0, 0, 0, 0), (368, 2, 0, 1, 0, 0), (369, 30, 85, 11, 39, 0), (372, 1, 3, 1, 0, 0), (373, 32, 0, 0, 0, 0), (374, 19, 0, 0, 0, 0), (375, 20, 0, 0, 0, 0), (376, 6, 1, 1, 0, 0), (377, 23, 3, 27, 0, 31), (380, 3, 1, 1, 0, 0), (381, 21, 0, 0, 0, 0), (382, 2, 0, 1, 0, 0), (383, 30, 86, 11, 40, 0), (386, 1, 3, 1, 0, 0), (387, 32, 0, 0, 0, 0), (388, 19, 0, 0, 0, 0), (389, 20, 0, 0, 0, 0), (390, 6, 1, 1, 0, 0), (391, 23, 3, 27, 0, 31), (394, 3, 1, 1, 0, 0), (395, 21, 0, 0, 0, 0), (396, 2, 0, 1, 0, 0), (397, 30, 87, 11, 41, 0), (400, 1, 3, 1, 0, 0), (401, 32, 0, 0, 0, 0), (402, 19, 0, 0, 0, 0), (403, 20, 0, 0, 0, 0), (404, 6, 1, 1, 0, 0), (405, 7, 3, 0, 0, 1), (408, 27, 355, 0, 0, 0), (411, 3, 1, 1, 0, 0), (412, 53, 0, 0, 0, 0)]
def e_in_263 : List (Nat × Instr × Nat) := [(0, .iload_n 0, 1), (1, .iload_n 1, 1), (2, .idiv, 1), (3, .istore_n 2, 1), (4, .iload_n 0, 1), (5, .iload_n 1, 1), (6, .ixor, 1), (7, .ifCond .ge 14, 3), (10, .iload_n 2, 1), (11, .iload_n 1, 1), (12, .imul, 1), (13, .iload_n 0, 1), (14, .if_icmp .eq 7, 3), (17, .iload_n 2, 1), (18, .iconst 1, 1), (19, .isub, 1), (20, .ireturn, 1), (21, .iload_n 2, 1), (22, .ireturn, 1)]
/-- java/lang/Math.floorDiv(II)I -/
def e_pg_263 : List (Nat × e_PI) := [(0, 1, 0, 1, 0, 0), (1, 1, 1, 1, 0, 0), (2, 12, 0, 0, 0, 0), (3, 4, 2, 1, 0, 0), (4, 1, 0, 1, 0, 0), (5, 1, 1, 1, 0, 0), (6, 18, 0, 0, 0, 0), (7, 28, 3, 21, 0, 0), (10, 1, 2, 1, 0, 0), (11, 1, 1, 1, 0, 0), (12, 10, 0, 0, 0, 0), (13, 1, 0, 1, 0, 0), (14, 29, 0, 21, 0, 0), (17, 1, 2, 1, 0, 0), (18, 0, 1, 0, 0, 1), (19, 9, 0, 0, 0, 0), (20, 51, 0, 0, 0, 0), (21, 1, 2, 1, 0, 0), (22, 51, 0, 0, 0, 0)]
def e_in_264 : List (Nat × Instr × Nat) := [(0, .iload_n 0, 1), (1, .ifCond .ge 8, 3), (4, .iload_n 0, 1), (5, .ineg, 1), (6, .goto 4, 3), (9, .iload_n 0, 1), (10, .ireturn, 1)]
/-- java/lang/Math.abs(I)I -/
def e_pg_264 : List (Nat × e_PI) := [(0, 1, 0, 1, 0, 0), (1, 28, 3, 9, 0, 0), (4, 1, 0, 1, 0, 0), (5, 11, 0, 0, 0, 0), (6, 27, 10, 0, 0, 0), (9, 1, 0, 1, 0, 0), (10, 51, 0, 0, 0, 0)]
def e_in_265 : List (Nat × Instr × Nat) := [(0, .iload_n 0, 1), (1, .iload_n 1, 1), (2, .if_icmp .lt 7, 3), (5, .iload_n 0, 1), (6, .goto 4, 3), (9, .iload_n 1, 1), (10, .ireturn, 1)]
/-- java/lang/Math.max(II)I -/
def e_pg_265 : List (Nat × e_PI) := [(0, 1, 0, 1, 0, 0), (1, 1, 1, 1, 0, 0), (2, 29, 2, 9, 0, 0), (5, 1, 0, 1, 0, 0), (6, 27, 10, 0, 0, 0), (9, 1, 1, 1, 0, 0), (10, 51, 0, 0, 0, 0)]
def e_in_266 : List (Nat × Instr × Nat) := [(0, .iload_n 0, 1), (1, .iload_n 1, 1), (2, .if_icmp .gt 7, 3), (5, .iload_n 0, 1), (6, .goto 4, 3), (9, .iload_n 1, 1), (10, .ireturn, 1)]
/-- java/lang/Math.min(II)I -/
def e_pg_266 : List (Nat × e_PI) := [(0, 1, 0, 1, 0, 0), (1, 1, 1, 1, 0, 0), (2, 29, 4, 9, 0, 0), (5, 1, 0, 1, 0, 0), (6, 27, 10, 0, 0, 0), (9, 1, 1, 1, 0, 0), (10, 51, 0, 0, 0, 0)]
def e_in_267 : List (Nat × Instr × Nat) := [(0, .iconst 0, 1), (1, .istore_n 2, 1), (2, .aload_n 0, 1), (3, .arraylength, 1), (4, .istore_n 3, 1), (5, .iload_n 2, 1), (6, .iload_n 3, 1), (7, .if_icmp .ge 13, 3), (10, .aload_n 0, 1), (11, .iload_n 2, 1), (12, .iload_n 1, 1), (13, .iastore, 1), (14, .iinc 2 1, 3), (17, .goto (-12), 3), (20, .return_, 1)]
/-- java/util/Arrays.fill([II)V -/
def e_pg_267 : List (Nat × e_PI) := [(0, 0, 1, 0, 0, 0), (1, 4, 2, 1, 0, 0), (2, 2, 0, 1, 0, 0), (3, 38, 0, 0, 0, 0), (4, 4, 3, 1, 0, 0), (5, 1, 2, 1, 0, 0), (6, 1, 3, 1, 0, 0), (7, 29, 3, 20, 0, 0), (10, 2, 0, 1, 0, 0), (11, 1, 2, 1, 0, 0), (12, 1, 1, 1, 0, 0), (13, 33, 0, 0, 0, 0), (14, 7, 2, 0, 0, 1), (17, 27, 5, 0, 0, 0), (20, 50, 0, 0, 0, 0)]
def e_in_268 : List (Nat × Instr × Nat) := [(0, .new 7, 3), (3, .dup, 1), (4, .invokespecial 9, 3), (7, .astore_n 1, 1), (8, .new 10, 3), (11, .dup, 1), (12, .invokespecial 12, 3), (15, .astore_n 2, 1), (16, .iconst 0, 1), (17, .istore_n 3, 1), (18, .iload_n 3, 1), (19, .aload_n 0, 1), (20, .arraylength, 1), (21, .bipush 6, 2), (23, .isub, 1), (24, .if_icmp .gt 1100, 3), (27, .aload_n 0, 1), (28, .iload_n 3, 1), (29, .iaload, 1), (30, .bipush 63, 2), (32, .iand, 1), (33, .tableswitch 1085 0 38 #[171, 194, 217, 240, 273, 312, 335, 348, 361, 384, 417, 450, 463, 476, 499, 562, 585, 608, 621, 634, 657, 680, 713, 736, 759, 782, 795, 808, 821, 854, 887, 900, 913, 956, 999, 1012, 1045, 1058, 1071], 171), (204, .aload_n 1, 1), (205, .aload_n 0, 1), (206, .iload_n 3, 1), (207, .iconst 1, 1), (208, .iadd, 1), (209, .iaload, 1), (210, .invokevirtual 13, 3), (213, .aload_n 2, 1), (214, .aload_n 0, 1), (215, .iload_n 3, 1), (216, .iconst 1, 1), (217, .iadd, 1), (218, .iaload, 1), (219, .invokevirtual 17, 3), (222, .if_icmp .eq 896, 3), (225, .iconst 0, 1), (226, .ireturn, 1), (227, .aload_n 1, 1), (228, .aload_n 0, 1), (229, .iload_n 3, 1), (230, .iconst 1, 1), (231, .iadd, 1), (232, .iaload, 1), (233, .invokevirtual 18, 3), (236, .aload_n 2, 1), (237, .aload_n 0, 1), (238, .iload_n 3, 1), (239, .iconst 1, 1), (240, .iadd, 1), (241, .iaload, 1), (242, .invokevirtual 21, 3), (245, .if_icmp .eq 873, 3), (248, .iconst 0, 1), (249, .ireturn, 1), (250, .aload_n 1, 1), (251, .aload_n 0, 1), (252, .iload_n 3, 1), (253, .iconst 1, 1), (254, .iadd, 1), (255, .iaload, 1), (256, .invokevirtual 22, 3), (259, .aload_n 2, 1), (260, .aload_n 0, 1), (261, .iload_n 3, 1), (262, .iconst 1, 1), (263, .iadd, 1), (264, .iaload, 1), (265, .invokevirtual 25, 3), (268, .if_icmp .eq 850, 3), (271, .iconst 0, 1), (272, .ireturn, 1), (273, .aload_n 1, 1), (274, .aload_n 0, 1), (275, .iload_n 3, 1), (276, .iconst 1, 1), (277, .iadd, 1), (278, .iaload, 1), (279, .aload_n 0, 1), (280, .iload_n 3, 1), (281, .iconst 2, 1), (282, .iadd, 1), (283, .iaload, 1), (284, .invokevirtual 26, 3), (287, .aload_n 2, 1), (288, .aload_n 0, 1), (289, .iload_n 3, 1), (290, .iconst 1, 1), (291, .iadd, 1), (292, .iaload, 1), (293, .aload_n 0, 1), (294, .iload_n 3, 1), (295, .iconst 2, 1), (296, .iadd, 1), (297, .iaload, 1), (298, .invokevirtual 30, 3), (301, .if_icmp .eq 817, 3), (304, .iconst 0, 1), (305, .ireturn, 1), (306, .aload_n 1, 1), (307, .aload_n 0, 1), (308, .iload_n 3, 1), (309, .iconst 1, 1), (310, .iadd, 1), (311, .iaload, 1), (312, .ifCond .eq 7, 3), (315, .iconst 1, 1), (316, .goto 4, 3), (319, .iconst 0, 1), (320, .invokevirtual 31, 3), (323, .aload_n 2, 1), (324, .aload_n 0, 1), (325, .iload_n 3, 1), (326, .iconst 1, 1), (327, .iadd, 1), (328, .iaload, 1), (329, .ifCond .eq 7, 3), (332, .iconst 1, 1), (333, .goto 4, 3), (336, .iconst 0, 1), (337, .invokevirtual 35, 3), (340, .if_icmp .eq 778, 3), (343, .iconst 0, 1), (344, .ireturn, 1), (345, .aload_n 1, 1), (346, .aload_n 0, 1), (347, .iload_n 3, 1), (348, .iconst 1, 1), (349, .iadd, 1), (350, .iaload, 1), (351, .invokevirtual 36, 3), (354, .aload_n 2, 1), (355, .aload_n 0, 1), (356, .iload_n 3, 1), (357, .iconst 1, 1), (358, .iadd, 1), (359, .iaload, 1), (360, .invokevirtual 39, 3), (363, .if_icmp .eq 755, 3), (366, .iconst 0, 1), (367, .ireturn, 1), (368, .aload_n 1, 1), (369, .invokevirtual 40, 3), (372, .aload_n 2, 1), (373, .invokevirtual 44, 3), (376, .if_icmp .eq 742, 3), (379, .iconst 0, 1), (380, .ireturn, 1), (381, .aload_n 1, 1), (382, .invokevirtual 45, 3), (385, .aload_n 2, 1), (386, .invokevirtual 48, 3), (389, .if_icmp .eq 729, 3), (392, .iconst 0, 1), (393, .ireturn, 1), (394, .aload_n 1, 1), (395, .aload_n 0, 1), (396, .iload_n 3, 1), (397, .iconst 1, 1), (398, .iadd, 1), (399, .iaload, 1), (400, .invokevirtual 49, 3), (403, .aload_n 2, 1), (404, .aload_n 0, 1), (405, .iload_n 3, 1), (406, .iconst 1, 1), (407, .iadd, 1), (408, .iaload, 1), (409, .invokevirtual 52, 3), (412, .if_icmp .eq 706, 3), (415, .iconst 0, 1), (416, .ireturn, 1), (417, .aload_n 1, 1), (418, .aload_n 0, 1), (419, .iload_n 3, 1), (420, .iconst 1, 1), (421, .iadd, 1), (422, .iaload, 1), (423, .aload_n 0, 1), (424, .iload_n 3, 1), (425, .iconst 2, 1), (426, .iadd, 1), (427, .iaload, 1), (428, .invokevirtual 53, 3), (431, .aload_n 2, 1), (432, .aload_n 0, 1), (433, .iload_n 3, 1), (434, .iconst 1, 1), (435, .iadd, 1), (436, .iaload, 1), (437, .aload_n 0, 1), (438, .iload_n 3, 1), (439, .iconst 2, 1), (440, .iadd, 1), (441, .iaload, 1), (442, .invokevirtual 56, 3), (445, .if_icmp .eq 673, 3), (448, .iconst 0, 1), (449, .ireturn, 1), (450, .aload_n 1, 1), (451, .aload_n 0, 1), (452, .iload_n 3, 1), (453, .iconst 1, 1), (454, .iadd, 1), (455, .iaload, 1), (456, .aload_n 0, 1), (457, .iload_n 3, 1), (458, .iconst 2, 1), (459, .iadd, 1), (460, .iaload, 1), (461, .invokevirtual 57, 3), (464, .aload_n 2, 1), (465, .aload_n 0, 1), (466, .iload_n 3, 1), (467, .iconst 1, 1), (468, .iadd, 1), (469, .iaload, 1), (470, .aload_n 0, 1), (471, .iload_n 3, 1), (472, .iconst 2, 1), (473, .iadd, 1), (474, .iaload, 1), (475, .invokevirtual 60, 3), (478, .if_icmp .eq 640, 3), (481, .iconst 0, 1), (482, .ireturn, 1), (483, .aload_n 1, 1), (484, .invokevirtual 61, 3), (487, .aload_n 2, 1), (488, .invokevirtual 64, 3), (491, .if_icmp .eq 627, 3), (494, .iconst 0, 1), (495, .ireturn, 1), (496, .aload_n 1, 1), (497, .invokevirtual 65, 3), (500, .aload_n 2, 1), (501, .invokevirtual 68, 3), (504, .if_icmp .eq 614, 3), (507, .iconst 0, 1), (508, .ireturn, 1), (509, .aload_n 1, 1), (510, .aload_n 0, 1), (511, .iload_n 3, 1), (512, .iconst 1, 1), (513, .iadd, 1), (514, .iaload, 1), (515, .invokevirtual 69, 3), (518, .aload_n 2, 1), (519, .aload_n 0, 1), (520, .iload_n 3, 1), (521, .iconst 1, 1), (522, .iadd, 1), (523, .iaload, 1), (524, .invokevirtual 72, 3), (527, .if_icmp .eq 591, 3), (530, .iconst 0, 1), (531, .ireturn, 1), (532, .aload_n 1, 1), (533, .aload_n 0, 1), (534, .iload_n 3, 1), (535, .iconst 1, 1), (536, .iadd, 1), (537, .iaload, 1), (538, .aload_n 0, 1), (539, .iload_n 3, 1), (540, .iconst 2, 1), (541, .iadd, 1), (542, .iaload, 1), (543, .aload_n 0, 1), (544, .iload_n 3, 1), (545, .iconst 3, 1), (546, .iadd, 1), (547, .iaload, 1), (548, .aload_n 0, 1), (549, .iload_n 3, 1), (550, .iconst 4, 1), (551, .iadd, 1), (552, .iaload, 1), (553, .aload_n 0, 1), (554, .iload_n 3, 1), (555, .iconst 5, 1), (556, .iadd, 1), (557, .iaload, 1), (558, .invokevirtual 73, 3), (561, .aload_n 2, 1), (562, .aload_n 0, 1), (563, .iload_n 3, 1), (564, .iconst 1, 1), (565, .iadd, 1), (566, .iaload, 1), (567, .aload_n 0, 1), (568, .iload_n 3, 1), (569, .iconst 2, 1), (570, .iadd, 1), (571, .iaload, 1), (572, .aload_n 0, 1), (573, .iload_n 3, 1), (574, .iconst 3, 1), (575, .iadd, 1), (576, .iaload, 1), (577, .aload_n 0, 1), (578, .iload_n 3, 1), (579, .iconst 4, 1), (580, .iadd, 1), (581, .iaload, 1), (582, .aload_n 0, 1), (583, .iload_n 3, 1), (584, .iconst 5, 1), (585, .iadd, 1), (586, .iaload, 1), (587, .invokevirtual 77, 3), (590, .if_icmp .eq 528, 3), (593, .iconst 0, 1), (594, .ireturn, 1), (595, .aload_n 1, 1), (596, .aload_n 0, 1), (597, .iload_n 3, 1), (598, .iconst 1, 1), (599, .iadd, 1), (600, .iaload, 1), (601, .invokevirtual 78, 3), (604, .aload_n 2, 1), (605, .aload_n 0, 1), (606, .iload_n 3, 1), (607, .iconst 1, 1), (608, .iadd, 1), (609, .iaload, 1), (610, .invokevirtual 81, 3), (613, .if_icmp .eq 505, 3), (616, .iconst 0, 1), (617, .ireturn, 1), (618, .aload_n 1, 1), (619, .aload_n 0, 1), (620, .iload_n 3, 1), (621, .iconst 1, 1), (622, .iadd, 1), (623, .iaload, 1), (624, .invokevirtual 82, 3), (627, .aload_n 2, 1), (628, .aload_n 0, 1), (629, .iload_n 3, 1), (630, .iconst 1, 1), (631, .iadd, 1), (632, .iaload, 1), (633, .invokevirtual 85, 3), (636, .if_icmp .eq 482, 3), (639, .iconst 0, 1), (640, .ireturn, 1), (641, .aload_n 1, 1), (642, .invokevirtual 86, 3), (645, .aload_n 2, 1), (646, .invokevirtual 89, 3), (649, .if_icmp .eq 469, 3), (652, .iconst 0, 1), (653, .ireturn, 1), (654, .aload_n 1, 1), (655, .invokevirtual 90, 3), (658, .aload_n 2, 1), (659, .invokevirtual 93, 3), (662, .if_icmp .eq 456, 3), (665, .iconst 0, 1), (666, .ireturn, 1), (667, .aload_n 1, 1), (668, .aload_n 0, 1), (669, .iload_n 3, 1), (670, .iconst 1, 1), (671, .iadd, 1), (672, .iaload, 1), (673, .invokevirtual 94, 3), (676, .aload_n 2, 1), (677, .aload_n 0, 1), (678, .iload_n 3, 1), (679, .iconst 1, 1), (680, .iadd, 1), (681, .iaload, 1), (682, .invokevirtual 97, 3), (685, .if_icmp .eq 433, 3), (688, .iconst 0, 1), (689, .ireturn, 1), (690, .aload_n 1, 1), (691, .aload_n 0, 1), (692, .iload_n 3, 1), (693, .iconst 1, 1), (694, .iadd, 1), (695, .iaload, 1), (696, .invokevirtual 98, 3), (699, .aload_n 2, 1), (700, .aload_n 0, 1), (701, .iload_n 3, 1), (702, .iconst 1, 1), (703, .iadd, 1), (704, .iaload, 1), (705, .invokevirtual 101, 3), (708, .if_icmp .eq 410, 3), (711, .iconst 0, 1), (712, .ireturn, 1), (713, .aload_n 1, 1), (714, .aload_n 0, 1), (715, .iload_n 3, 1), (716, .iconst 1, 1), (717, .iadd, 1), (718, .iaload, 1), (719, .aload_n 0, 1), (720, .iload_n 3, 1), (721, .iconst 2, 1), (722, .iadd, 1), (723, .iaload, 1), (724, .invokevirtual 102, 3), (727, .aload_n 2, 1), (728, .aload_n 0, 1), (729, .iload_n 3, 1), (730, .iconst 1, 1), (731, .iadd, 1), (732, .iaload, 1), (733, .aload_n 0, 1), (734, .iload_n 3, 1), (735, .iconst 2, 1), (736, .iadd, 1), (737, .iaload, 1), (738, .invokevirtual 105, 3), (741, .if_icmp .eq 377, 3), (744, .iconst 0, 1), (745, .ireturn, 1), (746, .aload_n 1, 1), (747, .aload_n 0, 1), (748, .iload_n 3, 1), (749, .iconst 1, 1), (750, .iadd, 1), (751, .iaload, 1), (752, .invokevirtual 106, 3), (755, .aload_n 2, 1), (756, .aload_n 0, 1), (757, .iload_n 3, 1), (758, .iconst 1, 1), (759, .iadd, 1), (760, .iaload, 1), (761, .invokevirtual 109, 3), (764, .if_icmp .eq 354, 3), (767, .iconst 0, 1), (768, .ireturn, 1), (769, .aload_n 1, 1), (770, .aload_n 0, 1), (771, .iload_n 3, 1), (772, .iconst 1, 1), (773, .iadd, 1), (774, .iaload, 1), (775, .invokevirtual 110, 3), (778, .aload_n 2, 1), (779, .aload_n 0, 1), (780, .iload_n 3, 1), (781, .iconst 1, 1), (782, .iadd, 1), (783, .iaload, 1), (784, .invokevirtual 113, 3), (787, .if_icmp .eq 331, 3), (790, .iconst 0, 1), (791, .ireturn, 1), (792, .aload_n 1, 1), (793, .aload_n 0, 1), (794, .iload_n 3, 1), (795, .iconst 1, 1), (796, .iadd, 1), (797, .iaload, 1), (798, .invokevirtual 114, 3), (801, .aload_n 2, 1), (802, .aload_n 0, 1), (803, .iload_n 3, 1), (804, .iconst 1, 1), (805, .iadd, 1), (806, .iaload, 1), (807, .invokevirtual 117, 3), (810, .if_icmp .eq 308, 3), (813, .iconst 0, 1), (814, .ireturn, 1), (815, .aload_n 1, 1), (816, .invokevirtual 118, 3), (819, .aload_n 2, 1), (820, .invokevirtual 121, 3), (823, .if_icmp .eq 295, 3), (826, .iconst 0, 1), (827, .ireturn, 1), (828, .aload_n 1, 1), (829, .invokevirtual 122, 3), (832, .aload_n 2, 1), (833, .invokevirtual 125, 3), (836, .if_icmp .eq 282, 3), (839, .iconst 0, 1), (840, .ireturn, 1), (841, .aload_n 1, 1), (842, .invokevirtual 126, 3), (845, .aload_n 2, 1), (846, .invokevirtual 129, 3), (849, .if_icmp .eq 269, 3), (852, .iconst 0, 1), (853, .ireturn, 1), (854, .aload_n 1, 1), (855, .aload_n 0, 1), (856, .iload_n 3, 1), (857, .iconst 1, 1), (858, .iadd, 1), (859, .iaload, 1), (860, .aload_n 0, 1), (861, .iload_n 3, 1), (862, .iconst 2, 1), (863, .iadd, 1), (864, .iaload, 1), (865, .invokevirtual 130, 3), (868, .aload_n 2, 1), (869, .aload_n 0, 1), (870, .iload_n 3, 1), (871, .iconst 1, 1), (872, .iadd, 1), (873, .iaload, 1), (874, .aload_n 0, 1), (875, .iload_n 3, 1), (876, .iconst 2, 1), (877, .iadd, 1), (878, .iaload, 1), (879, .invokevirtual 133, 3), (882, .if_icmp .eq 236, 3), (885, .iconst 0, 1), (886, .ireturn, 1), (887, .aload_n 1, 1), (888, .aload_n 0, 1), (889, .iload_n 3, 1), (890, .iconst 1, 1), (891, .iadd, 1), (892, .iaload, 1), (893, .aload_n 0, 1), (894, .iload_n 3, 1), (895, .iconst 2, 1), (896, .iadd, 1), (897, .iaload, 1), (898, .invokevirtual 134, 3), (901, .aload_n 2, 1), (902, .aload_n 0, 1), (903, .iload_n 3, 1), (904, .iconst 1, 1), (905, .iadd, 1), (906, .iaload, 1), (907, .aload_n 0, 1), (908, .iload_n 3, 1), (909, .iconst 2, 1), (910, .iadd, 1), (911, .iaload, 1), (912, .invokevirtual 137, 3), (915, .if_icmp .eq 203, 3), (918, .iconst 0, 1), (919, .ireturn, 1), (920, .aload_n 1, 1), (921, .invokevirtual 138, 3), (924, .aload_n 2, 1), (925, .invokevirtual 141, 3), (928, .if_icmp .eq 190, 3), (931, .iconst 0, 1), (932, .ireturn, 1), (933, .aload_n 1, 1), (934, .invokevirtual 142, 3), (937, .aload_n 2, 1), (938, .invokevirtual 145, 3), (941, .if_icmp .eq 177, 3), (944, .iconst 0, 1), (945, .ireturn, 1), (946, .aload_n 1, 1), (947, .aload_n 0, 1), (948, .iload_n 3, 1), (949, .iconst 1, 1), (950, .iadd, 1), (951, .iaload, 1), (952, .aload_n 0, 1), (953, .iload_n 3, 1), (954, .iconst 2, 1), (955, .iadd, 1), (956, .iaload, 1), (957, .aload_n 0, 1), (958, .iload_n 3, 1), (959, .iconst 3, 1), (960, .iadd, 1), (961, .iaload, 1), (962, .invokevirtual 146, 3), (965, .aload_n 2, 1), (966, .aload_n 0, 1), (967, .iload_n 3, 1), (968, .iconst 1, 1), (969, .iadd, 1), (970, .iaload, 1), (971, .aload_n 0, 1), (972, .iload_n 3, 1), (973, .iconst 2, 1), (974, .iadd, 1), (975, .iaload, 1), (976, .aload_n 0, 1), (977, .iload_n 3, 1), (978, .iconst 3, 1), (979, .iadd, 1), (980, .iaload, 1), (981, .invokevirtual 150, 3), (984, .if_icmp .eq 134, 3), (987, .iconst 0, 1), (988, .ireturn, 1), (989, .aload_n 1, 1), (990, .aload_n 0, 1), (991, .iload_n 3, 1), (992, .iconst 1, 1), (993, .iadd, 1), (994, .iaload, 1), (995, .aload_n 0, 1), (996, .iload_n 3, 1), (997, .iconst 2, 1), (998, .iadd, 1), (999, .iaload, 1), (1000, .aload_n 0, 1), (1001, .iload_n 3, 1), (1002, .iconst 3, 1), (1003, .iadd, 1), (1004, .iaload, 1), (1005, .invokevirtual 151, 3), (1008, .aload_n 2, 1), (1009, .aload_n 0, 1), (1010, .iload_n 3, 1), (1011, .iconst 1, 1), (1012, .iadd, 1), (1013, .iaload, 1), (1014, .aload_n 0, 1), (1015, .iload_n 3, 1), (1016, .iconst 2, 1), (1017, .iadd, 1), (1018, .iaload, 1), (1019, .aload_n 0, 1), (1020, .iload_n 3, 1), (1021, .iconst 3, 1), (1022, .iadd, 1), (1023, .iaload, 1), (1024, .invokevirtual 154, 3), (1027, .if_icmp .eq 91, 3), (1030, .iconst 0, 1), (1031, .ireturn, 1), (1032, .aload_n 1, 1), (1033, .invokevirtual 155, 3), (1036, .aload_n 2, 1), (1037, .invokevirtual 158, 3), (1040, .if_icmp .eq 78, 3), (1043, .iconst 0, 1), (1044, .ireturn, 1), (1045, .aload_n 1, 1), (1046, .aload_n 0, 1), (1047, .iload_n 3, 1), (1048, .iconst 1, 1), (1049, .iadd, 1), (1050, .iaload, 1), (1051, .aload_n 0, 1), (1052, .iload_n 3, 1), (1053, .iconst 2, 1), (1054, .iadd, 1), (1055, .iaload, 1), (1056, .invokevirtual 159, 3), (1059, .aload_n 2, 1), (1060, .aload_n 0, 1), (1061, .iload_n 3, 1), (1062, .iconst 1, 1), (1063, .iadd, 1), (1064, .iaload, 1), (1065, .aload_n 0, 1), (1066, .iload_n 3, 1), (1067, .iconst 2, 1), (1068, .iadd, 1), (1069, .iaload, 1), (1070, .invokevirtual 162, 3), (1073, .if_icmp .eq 45, 3), (1076, .iconst 0, 1), (1077, .ireturn, 1), (1078, .aload_n 1, 1), (1079, .invokevirtual 163, 3), (1082, .aload_n 2, 1), (1083, .invokevirtual 166, 3), (1086, .if_icmp .eq 32, 3), (1089, .iconst 0, 1), (1090, .ireturn, 1), (1091, .aload_n 1, 1), (1092, .invokevirtual 167, 3), (1095, .aload_n 2, 1), (1096, .invokevirtual 170, 3), (1099, .if_icmp .eq 19, 3), (1102, .iconst 0, 1), (1103, .ireturn, 1), (1104, .aload_n 1, 1), (1105, .invokevirtual 171, 3), (1108, .aload_n 2, 1), (1109, .invokevirtual 175, 3), (1112, .lcmp, 1), (1113, .ifCond .eq 5, 3), (1116, .iconst 0, 1), (1117, .ireturn, 1), (1118, .iinc 3 6, 3), (1121, .goto (-1103), 3), (1124, .iconst 1, 1), (1125, .ireturn, 1)]
/-- EvenWheelLaw.law([I)Z -/
def e_pg_268 : List (Nat × e_PI) := [(0, 43, 15, 10, 0, 0), (3, 24, 0, 0, 0, 0), (4, 44, 4314, 151, 1, 0), (7, 5, 1, 1, 0, 0), (8, 43, 16, 11, 0, 0), (11, 24, 0, 0, 0, 0), (12, 44, 4331, 192, 1, 0), (15, 5, 2, 1, 0, 0), (16, 0, 1, 0, 0, 0), (17, 4, 3, 1, 0, 0), (18, 1, 3, 1, 0, 0), (19, 2, 0, 1, 0, 0), (20, 38, 0, 0, 0, 0), (21, 0, 2, 0, 0, 6), (23, 9, 0, 0, 0, 0), (24, 29, 4, 1124, 0, 0), (27, 2, 0, 1, 0, 0), (28, 1, 3, 1, 0, 0), (29, 32, 0, 0, 0, 0), (30, 0, 2, 0, 0, 63), (32, 16, 0, 0, 0, 0), (33, 47, 7, 0, 0, 0), (204, 2, 1, 1, 0, 0), (205, 2, 0, 1, 0, 0), (206, 1, 3, 1, 0, 0), (207, 0, 1, 0, 0, 1), (208, 8, 0, 0, 0, 0), (209, 32, 0, 0, 0, 0), (210, 44, 4346, 152, 2, 0), (213, 2, 2, 1, 0, 0), (214, 2, 0, 1, 0, 0), (215, 1, 3, 1, 0, 0), (216, 0, 1, 0, 0, 1), (217, 8, 0, 0, 0, 0), (218, 32, 0, 0, 0, 0), (219, 44, 4363, 196, 2, 0), (222, 29, 0, 1118, 0, 0), (225, 0, 1, 0, 0, 0), (226, 52, 0, 0, 0, 0), (227, 2, 1, 1, 0, 0), (228, 2, 0, 1, 0, 0), (229, 1, 3, 1, 0, 0), (230, 0, 1, 0, 0, 1), (231, 8, 0, 0, 0, 0), (232, 32, 0, 0, 0, 0), (233, 44, 4378, 153, 2, 0), (236, 2, 2, 1, 0, 0), (237, 2, 0, 1, 0, 0), (238, 1, 3, 1, 0, 0), (239, 0, 1, 0, 0, 1), (240, 8, 0, 0, 0, 0), (241, 32, 0, 0, 0, 0), (242, 44, 4395, 199, 2, 0), (245, 29, 0, 1118, 0, 0), (248, 0, 1, 0, 0, 0), (249, 52, 0, 0, 0, 0), (250, 2, 1, 1, 0, 0), (251, 2, 0, 1, 0, 0), (252, 1, 3, 1, 0, 0), (253, 0, 1, 0, 0, 1), (254, 8, 0, 0, 0, 0), (255, 32, 0, 0, 0, 0), (256, 44, 4410, 154, 2, 0), (259, 2, 2, 1, 0, 0), (260, 2, 0, 1, 0, 0), (261, 1, 3, 1, 0, 0), (262, 0, 1, 0, 0, 1), (263, 8, 0, 0, 0, 0), (264, 32, 0, 0, 0, 0), (265, 44, 4427, 206, 2, 0), (268, 29, 0, 1118, 0, 0), (271, 0, 1, 0, 0, 0), (272, 52, 0, 0, 0, 0), (273, 2, 1, 1, 0, 0), (274, 2, 0, 1, 0, 0), (275, 1, 3, 1, 0, 0), (276, 0, 1, 0, 0, 1), (277, 8, 0, 0, 0, 0), (278, 32, 0, 0, 0, 0), (279, 2, 0, 1, 0, 0), (280, 1, 3, 1, 0, 0), (281, 0, 1, 0, 0, 2), (282, 8, 0, 0, 0, 0), (283, 32, 0, 0, 0, 0), (284, 44, 4442, 155, 3, 0), (287, 2, 2, 1, 0, 0), (288, 2, 0, 1, 0, 0), (289, 1, 3, 1, 0, 0), (290, 0, 1, 0, 0, 1), (291, 8, 0, 0, 0, 0), (292, 32, 0, 0, 0, 0), (293, 2, 0, 1, 0, 0), (294, 1, 3, 1, 0, 0), (295, 0, 1, 0, 0, 2), (296, 8, 0, 0, 0, 0), (297, 32, 0, 0, 0, 0), (298, 44, 4459, 207, 3, 0), (301, 29, 0, 1118, 0, 0), (304, 0, 1, 0, 0, 0), (305, 52, 0, 0, 0, 0), (306, 2, 1, 1, 0, 0), (307, 2, 0, 1, 0, 0), (308, 1, 3, 1, 0, 0), (309, 0, 1, 0, 0, 1), (310, 8, 0, 0, 0, 0), (311, 32, 0, 0, 0, 0), (312, 28, 0, 319, 0, 0), (315, 0, 1, 0, 0, 1), (316, 27, 320, 0, 0, 0), (319, 0, 1, 0, 0, 0), (320, 44, 4474, 156, 2, 0), (323, 2, 2, 1, 0, 0), (324, 2, 0, 1, 0, 0), (325, 1, 3, 1, 0, 0), (326, 0, 1, 0, 0, 1), (327, 8, 0, 0, 0, 0), (328, 32, 0, 0, 0, 0), (329, 28, 0, 336, 0, 0), (332, 0, 1, 0, 0, 1), (333, 27, 337, 0, 0, 0), (336, 0, 1, 0, 0, 0), (337, 44, 4491, 208, 2, 0), (340, 29, 0, 1118, 0, 0), (343, 0, 1, 0, 0, 0), (344, 52, 0, 0, 0, 0), (345, 2, 1, 1, 0, 0), (346, 2, 0, 1, 0, 0), (347, 1, 3, 1, 0, 0), (348, 0, 1, 0, 0, 1), (349, 8, 0, 0, 0, 0), (350, 32, 0, 0, 0, 0), (351, 44, 4506, 157, 2, 0), (354, 2, 2, 1, 0, 0), (355, 2, 0, 1, 0, 0), (356, 1, 3, 1, 0, 0), (357, 0, 1, 0, 0, 1), (358, 8, 0, 0, 0, 0), (359, 32, 0, 0, 0, 0), (360, 44, 4523, 209, 2, 0), (363, 29, 0, 1118, 0, 0), (366, 0, 1, 0, 0, 0), (367, 52, 0, 0, 0, 0), (368, 2, 1, 1, 0, 0), (369, 44, 4538, 158, 1, 0), (372, 2, 2, 1, 0, 0), (373, 44, 4555, 210, 1, 0), (376, 29, 0, 1118, 0, 0), (379, 0, 1, 0, 0, 0), (380, 52, 0, 0, 0, 0), (381, 2, 1, 1, 0, 0), (382, 44, 4570, 159, 1, 0), (385, 2, 2, 1, 0, 0), (386, 44, 4587, 211, 1, 0), (389, 29, 0, 1118, 0, 0), (392, 0, 1, 0, 0, 0), (393, 52, 0, 0, 0, 0), (394, 2, 1, 1, 0, 0), (395, 2, 0, 1, 0, 0), (396, 1, 3, 1, 0, 0), (397, 0, 1, 0, 0, 1), (398, 8, 0, 0, 0, 0), (399, 32, 0, 0, 0, 0), (400, 44, 4602, 160, 2, 0), (403, 2, 2, 1, 0, 0), (404, 2, 0, 1, 0, 0), (405, 1, 3, 1, 0, 0), (406, 0, 1, 0, 0, 1), (407, 8, 0, 0, 0, 0), (408, 32, 0, 0, 0, 0), (409, 44, 4619, 213, 2, 0), (412, 29, 0, 1118, 0, 0), (415, 0, 1, 0, 0, 0), (416, 52, 0, 0, 0, 0), (417, 2, 1, 1, 0, 0), (418, 2, 0, 1, 0, 0), (419, 1, 3, 1, 0, 0), (420, 0, 1, 0, 0, 1), (421, 8, 0, 0, 0, 0), (422, 32, 0, 0, 0, 0), (423, 2, 0, 1, 0, 0), (424, 1, 3, 1, 0, 0), (425, 0, 1, 0, 0, 2), (426, 8, 0, 0, 0, 0), (427, 32, 0, 0, 0, 0), (428, 44, 4634, 161, 3, 0), (431, 2, 2, 1, 0, 0), (432, 2, 0, 1, 0, 0), (433, 1, 3, 1, 0, 0), (434, 0, 1, 0, 0, 1), (435, 8, 0, 0, 0, 0), (436, 32, 0, 0, 0, 0), (437, 2, 0, 1, 0, 0), (438, 1, 3, 1, 0, 0), (439, 0, 1, 0, 0, 2), (440, 8, 0, 0, 0, 0), (441, 32, 0, 0, 0, 0), (442, 44, 4651, 215, 3, 0), (445, 29, 0, 1118, 0, 0), (448, 0, 1, 0, 0, 0), (449, 52, 0, 0, 0, 0), (450, 2, 1, 1, 0, 0), (451, 2, 0, 1, 0, 0), (452, 1, 3, 1, 0, 0), (453, 0, 1, 0, 0, 1), (454, 8, 0, 0, 0, 0), (455, 32, 0, 0, 0, 0), (456, 2, 0, 1, 0, 0), (457, 1, 3, 1, 0, 0), (458, 0, 1, 0, 0, 2), (459, 8, 0, 0, 0, 0), (460, 32, 0, 0, 0, 0), (461, 44, 4666, 162, 3, 0), (464, 2, 2, 1, 0, 0), (465, 2, 0, 1, 0, 0), (466, 1, 3, 1, 0, 0), (467, 0, 1, 0, 0, 1), (468, 8, 0, 0, 0, 0), (469, 32, 0, 0, 0, 0), (470, 2, 0, 1, 0, 0), (471, 1, 3, 1, 0, 0), (472, 0, 1, 0, 0, 2), (473, 8, 0, 0, 0, 0), (474, 32, 0, 0, 0, 0), (475, 44, 4683, 216, 3, 0), (478, 29, 0, 1118, 0, 0), (481, 0, 1, 0, 0, 0), (482, 52, 0, 0, 0, 0), (483, 2, 1, 1, 0, 0), (484, 44, 4698, 163, 1, 0), (487, 2, 2, 1, 0, 0), (488, 44, 4715, 219, 1, 0), (491, 29, 0, 1118, 0, 0), (494, 0, 1, 0, 0, 0), (495, 52, 0, 0, 0, 0), (496, 2, 1, 1, 0, 0), (497, 44, 4730, 164, 1, 0), (500, 2, 2, 1, 0, 0), (501, 44, 4747, 220, 1, 0), (504, 29, 0, 1118, 0, 0), (507, 0, 1, 0, 0, 0), (508, 52, 0, 0, 0, 0), (509, 2, 1, 1, 0, 0), (510, 2, 0, 1, 0, 0), (511, 1, 3, 1, 0, 0), (512, 0, 1, 0, 0, 1), (513, 8, 0, 0, 0, 0), (514, 32, 0, 0, 0, 0), (515, 44, 4762, 165, 2, 0), (518, 2, 2, 1, 0, 0), (519, 2, 0, 1, 0, 0), (520, 1, 3, 1, 0, 0), (521, 0, 1, 0, 0, 1), (522, 8, 0, 0, 0, 0), (523, 32, 0, 0, 0, 0), (524, 44, 4779, 221, 2, 0), (527, 29, 0, 1118, 0, 0), (530, 0, 1, 0, 0, 0), (531, 52, 0, 0, 0, 0), (532, 2, 1, 1, 0, 0), (533, 2, 0, 1, 0, 0), (534, 1, 3, 1, 0, 0), (535, 0, 1, 0, 0, 1), (536, 8, 0, 0, 0, 0), (537, 32, 0, 0, 0, 0), (538, 2, 0, 1, 0, 0), (539, 1, 3, 1, 0, 0), (540, 0, 1, 0, 0, 2), (541, 8, 0, 0, 0, 0), (542, 32, 0, 0, 0, 0), (543, 2, 0, 1, 0, 0), (544, 1, 3, 1, 0, 0), (545, 0, 1, 0, 0, 3), (546, 8, 0, 0, 0, 0), (547, 32, 0, 0, 0, 0), (548, 2, 0, 1, 0, 0), (549, 1, 3, 1, 0, 0), (550, 0, 1, 0, 0, 4), (551, 8, 0, 0, 0, 0), (552, 32, 0, 0, 0, 0), (553, 2, 0, 1, 0, 0), (554, 1, 3, 1, 0, 0), (555, 0, 1, 0, 0, 5), (556, 8, 0, 0, 0, 0), (557, 32, 0, 0, 0, 0), (558, 44, 4794, 166, 6, 0), (561, 2, 2, 1, 0, 0), (562, 2, 0, 1, 0, 0), (563, 1, 3, 1, 0, 0), (564, 0, 1, 0, 0, 1), (565, 8, 0, 0, 0, 0), (566, 32, 0, 0, 0, 0), (567, 2, 0, 1, 0, 0), (568, 1, 3, 1, 0, 0), (569, 0, 1, 0, 0, 2), (570, 8, 0, 0, 0, 0), (571, 32, 0, 0, 0, 0), (572, 2, 0, 1, 0, 0), (573, 1, 3, 1, 0, 0), (574, 0, 1, 0, 0, 3), (575, 8, 0, 0, 0, 0), (576, 32, 0, 0, 0, 0), (577, 2, 0, 1, 0, 0), (578, 1, 3, 1, 0, 0), (579, 0, 1, 0, 0, 4), (580, 8, 0, 0, 0, 0), (581, 32, 0, 0, 0, 0), (582, 2, 0, 1, 0, 0), (583, 1, 3, 1, 0, 0), (584, 0, 1, 0, 0, 5), (585, 8, 0, 0, 0, 0), (586, 32, 0, 0, 0, 0), (587, 44, 4811, 223, 6, 0), (590, 29, 0, 1118, 0, 0), (593, 0, 1, 0, 0, 0), (594, 52, 0, 0, 0, 0), (595, 2, 1, 1, 0, 0), (596, 2, 0, 1, 0, 0), (597, 1, 3, 1, 0, 0), (598, 0, 1, 0, 0, 1), (599, 8, 0, 0, 0, 0), (600, 32, 0, 0, 0, 0), (601, 44, 4826, 167, 2, 0), (604, 2, 2, 1, 0, 0), (605, 2, 0, 1, 0, 0), (606, 1, 3, 1, 0, 0), (607, 0, 1, 0, 0, 1), (608, 8, 0, 0, 0, 0), (609, 32, 0, 0, 0, 0), (610, 44, 4843, 224, 2, 0), (613, 29, 0, 1118, 0, 0), (616, 0, 1, 0, 0, 0), (617, 52, 0, 0, 0, 0), (618, 2, 1, 1, 0, 0), (619, 2, 0, 1, 0, 0), (620, 1, 3, 1, 0, 0), (621, 0, 1, 0, 0, 1), (622, 8, 0, 0, 0, 0), (623, 32, 0, 0, 0, 0), (624, 44, 4858, 168, 2, 0), (627, 2, 2, 1, 0, 0), (628, 2, 0, 1, 0, 0), (629, 1, 3, 1, 0, 0), (630, 0, 1, 0, 0, 1), (631, 8, 0, 0, 0, 0), (632, 32, 0, 0, 0, 0), (633, 44, 4875, 226, 2, 0), (636, 29, 0, 1118, 0, 0), (639, 0, 1, 0, 0, 0), (640, 52, 0, 0, 0, 0), (641, 2, 1, 1, 0, 0), (642, 44, 4890, 169, 1, 0), (645, 2, 2, 1, 0, 0), (646, 44, 4907, 229, 1, 0), (649, 29, 0, 1118, 0, 0), (652, 0, 1, 0, 0, 0), (653, 52, 0, 0, 0, 0), (654, 2, 1, 1, 0, 0), (655, 44, 4922, 170, 1, 0), (658, 2, 2, 1, 0, 0), (659, 44, 4939, 230, 1, 0), (662, 29, 0, 1118, 0, 0), (665, 0, 1, 0, 0, 0), (666, 52, 0, 0, 0, 0), (667, 2, 1, 1, 0, 0), (668, 2, 0, 1, 0, 0), (669, 1, 3, 1, 0, 0), (670, 0, 1, 0, 0, 1), (671, 8, 0, 0, 0, 0), (672, 32, 0, 0, 0, 0), (673, 44, 4954, 171, 2, 0), (676, 2, 2, 1, 0, 0), (677, 2, 0, 1, 0, 0), (678, 1, 3, 1, 0, 0), (679, 0, 1, 0, 0, 1), (680, 8, 0, 0, 0, 0), (681, 32, 0, 0, 0, 0), (682, 44, 4971, 231, 2, 0), (685, 29, 0, 1118, 0, 0), (688, 0, 1, 0, 0, 0), (689, 52, 0, 0, 0, 0), (690, 2, 1, 1, 0, 0), (691, 2, 0, 1, 0, 0), (692, 1, 3, 1, 0, 0), (693, 0, 1, 0, 0, 1), (694, 8, 0, 0, 0, 0), (695, 32, 0, 0, 0, 0), (696, 44, 4986, 172, 2, 0), (699, 2, 2, 1, 0, 0), (700, 2, 0, 1, 0, 0), (701, 1, 3, 1, 0, 0), (702, 0, 1, 0, 0, 1), (703, 8, 0, 0, 0, 0), (704, 32, 0, 0, 0, 0), (705, 44, 5003, 232, 2, 0), (708, 29, 0, 1118, 0, 0), (711, 0, 1, 0, 0, 0), (712, 52, 0, 0, 0, 0), (713, 2, 1, 1, 0, 0), (714, 2, 0, 1, 0, 0), (715, 1, 3, 1, 0, 0), (716, 0, 1, 0, 0, 1), (717, 8, 0, 0, 0, 0), (718, 32, 0, 0, 0, 0), (719, 2, 0, 1, 0, 0), (720, 1, 3, 1, 0, 0), (721, 0, 1, 0, 0, 2), (722, 8, 0, 0, 0, 0), (723, 32, 0, 0, 0, 0), (724, 44, 5018, 173, 3, 0), (727, 2, 2, 1, 0, 0), (728, 2, 0, 1, 0, 0), (729, 1, 3, 1, 0, 0), (730, 0, 1, 0, 0, 1), (731, 8, 0, 0, 0, 0), (732, 32, 0, 0, 0, 0), (733, 2, 0, 1, 0, 0), (734, 1, 3, 1, 0, 0), (735, 0, 1, 0, 0, 2), (736, 8, 0, 0, 0, 0), (737, 32, 0, 0, 0, 0), (738, 44, 5035, 234, 3, 0), (741, 29, 0, 1118, 0, 0), (744, 0, 1, 0, 0, 0), (745, 52, 0, 0, 0, 0), (746, 2, 1, 1, 0, 0), (747, 2, 0, 1, 0, 0), (748, 1, 3, 1, 0, 0), (749, 0, 1, 0, 0, 1), (750, 8, 0, 0, 0, 0), (751, 32, 0, 0, 0, 0), (752, 44, 5050, 174, 2, 0), (755, 2, 2, 1, 0, 0), (756, 2, 0, 1, 0, 0), (757, 1, 3, 1, 0, 0), (758, 0, 1, 0, 0, 1), (759, 8, 0, 0, 0, 0), (760, 32, 0, 0, 0, 0), (761, 44, 5067, 239, 2, 0), (764, 29, 0, 1118, 0, 0), (767, 0, 1, 0, 0, 0), (768, 52, 0, 0, 0, 0), (769, 2, 1, 1, 0, 0), (770, 2, 0, 1, 0, 0), (771, 1, 3, 1, 0, 0), (772, 0, 1, 0, 0, 1), (773, 8, 0, 0, 0, 0), (774, 32, 0, 0, 0, 0), (775, 44, 5082, 175, 2, 0), (778, 2, 2, 1, 0, 0), (779, 2, 0, 1, 0, 0), (780, 1, 3, 1, 0, 0), (781, 0, 1, 0, 0, 1), (782, 8, 0, 0, 0, 0), (783, 32, 0, 0, 0, 0), (784, 44, 5099, 240, 2, 0), (787, 29, 0, 1118, 0, 0), (790, 0, 1, 0, 0, 0), (791, 52, 0, 0, 0, 0), (792, 2, 1, 1, 0, 0), (793, 2, 0, 1, 0, 0), (794, 1, 3, 1, 0, 0), (795, 0, 1, 0, 0, 1), (796, 8, 0, 0, 0, 0), (797, 32, 0, 0, 0, 0), (798, 44, 5114, 176, 2, 0), (801, 2, 2, 1, 0, 0), (802, 2, 0, 1, 0, 0), (803, 1, 3, 1, 0, 0), (804, 0, 1, 0, 0, 1), (805, 8, 0, 0, 0, 0), (806, 32, 0, 0, 0, 0), (807, 44, 5131, 241, 2, 0), (810, 29, 0, 1118, 0, 0), (813, 0, 1, 0, 0, 0), (814, 52, 0, 0, 0, 0), (815, 2, 1, 1, 0, 0), (816, 44, 5146, 177, 1, 0), (819, 2, 2, 1, 0, 0), (820, 44, 5163, 243, 1, 0), (823, 29, 0, 1118, 0, 0), (826, 0, 1, 0, 0, 0), (827, 52, 0, 0, 0, 0), (828, 2, 1, 1, 0, 0), (829, 44, 5178, 178, 1, 0), (832, 2, 2, 1, 0, 0), (833, 44, 5195, 244, 1, 0), (836, 29, 0, 1118, 0, 0), (839, 0, 1, 0, 0, 0), (840, 52, 0, 0, 0, 0), (841, 2, 1, 1, 0, 0), (842, 44, 5210, 179, 1, 0), (845, 2, 2, 1, 0, 0), (846, 44, 5227, 245, 1, 0), (849, 29, 0, 1118, 0, 0), (852, 0, 1, 0, 0, 0), (853, 52, 0, 0, 0, 0), (854, 2, 1, 1, 0, 0), (855, 2, 0, 1, 0, 0), (856, 1, 3, 1, 0, 0), (857, 0, 1, 0, 0, 1), (858, 8, 0, 0, 0, 0), (859, 32, 0, 0, 0, 0), (860, 2, 0, 1, 0, 0), (861, 1, 3, 1, 0, 0), (862, 0, 1, 0, 0, 2), (863, 8, 0, 0, 0, 0), (864, 32, 0, 0, 0, 0), (865, 44, 5242, 180, 3, 0), (868, 2, 2, 1, 0, 0), (869, 2, 0, 1, 0, 0), (870, 1, 3, 1, 0, 0), (871, 0, 1, 0, 0, 1), (872, 8, 0, 0, 0, 0), (873, 32, 0, 0, 0, 0), (874, 2, 0, 1, 0, 0), (875, 1, 3, 1, 0, 0), (876, 0, 1, 0, 0, 2), (877, 8, 0, 0, 0, 0), (878, 32, 0, 0, 0, 0), (879, 44, 5259, 246, 3, 0), (882, 29, 0, 1118, 0, 0), (885, 0, 1, 0, 0, 0), (886, 52, 0, 0, 0, 0), (887, 2, 1, 1, 0, 0), (888, 2, 0, 1, 0, 0), (889, 1, 3, 1, 0, 0), (890, 0, 1, 0, 0, 1), (891, 8, 0, 0, 0, 0), (892, 32, 0, 0, 0, 0), (893, 2, 0, 1, 0, 0), (894, 1, 3, 1, 0, 0), (895, 0, 1, 0, 0, 2), (896, 8, 0, 0, 0, 0), (897, 32, 0, 0, 0, 0), (898, 44, 5274, 181, 3, 0), (901, 2, 2, 1, 0, 0), (902, 2, 0, 1, 0, 0), (903, 1, 3, 1, 0, 0), (904, 0, 1, 0, 0, 1), (905, 8, 0, 0, 0, 0), (906, 32, 0, 0, 0, 0), (907, 2, 0, 1, 0, 0), (908, 1, 3, 1, 0, 0), (909, 0, 1, 0, 0, 2), (910, 8, 0, 0, 0, 0), (911, 32, 0, 0, 0, 0), (912, 44, 5291, 249, 3, 0), (915, 29, 0, 1118, 0, 0), (918, 0, 1, 0, 0, 0), (919, 52, 0, 0, 0, 0), (920, 2, 1, 1, 0, 0), (921, 44, 5306, 182, 1, 0), (924, 2, 2, 1, 0, 0), (925, 44, 5323, 250, 1, 0), (928, 29, 0, 1118, 0, 0), (931, 0, 1, 0, 0, 0), (932, 52, 0, 0, 0, 0), (933, 2, 1, 1, 0, 0), (934, 44, 5338, 183, 1, 0), (937, 2, 2, 1, 0, 0), (938, 44, 5355, 251, 1, 0), (941, 29, 0, 1118, 0, 0), (944, 0, 1, 0, 0, 0), (945, 52, 0, 0, 0, 0), (946, 2, 1, 1, 0, 0), (947, 2, 0, 1, 0, 0), (948, 1, 3, 1, 0, 0), (949, 0, 1, 0, 0, 1), (950, 8, 0, 0, 0, 0), (951, 32, 0, 0, 0, 0), (952, 2, 0, 1, 0, 0), (953, 1, 3, 1, 0, 0), (954, 0, 1, 0, 0, 2), (955, 8, 0, 0, 0, 0), (956, 32, 0, 0, 0, 0), (957, 2, 0, 1, 0, 0), (958, 1, 3, 1, 0, 0), (959, 0, 1, 0, 0, 3), (960, 8, 0, 0, 0, 0), (961, 32, 0, 0, 0, 0), (962, 44, 5370, 184, 4, 0), (965, 2, 2, 1, 0, 0), (966, 2, 0, 1, 0, 0), (967, 1, 3, 1, 0, 0), (968, 0, 1, 0, 0, 1), (969, 8, 0, 0, 0, 0), (970, 32, 0, 0, 0, 0), (971, 2, 0, 1, 0, 0), (972, 1, 3, 1, 0, 0), (973, 0, 1, 0, 0, 2), (974, 8, 0, 0, 0, 0), (975, 32, 0, 0, 0, 0), (976, 2, 0, 1, 0, 0), (977, 1, 3, 1, 0, 0), (978, 0, 1, 0, 0, 3), (979, 8, 0, 0, 0, 0), (980, 32, 0, 0, 0, 0), (981, 44, 5387, 252, 4, 0), (984, 29, 0, 1118, 0, 0), (987, 0, 1, 0, 0, 0), (988, 52, 0, 0, 0, 0), (989, 2, 1, 1, 0, 0), (990, 2, 0, 1, 0, 0), (991, 1, 3, 1, 0, 0), (992, 0, 1, 0, 0, 1), (993, 8, 0, 0, 0, 0), (994, 32, 0, 0, 0, 0), (995, 2, 0, 1, 0, 0), (996, 1, 3, 1, 0, 0), (997, 0, 1, 0, 0, 2), (998, 8, 0, 0, 0, 0), (999, 32, 0, 0, 0, 0), (1000, 2, 0, 1, 0, 0), (1001, 1, 3, 1, 0, 0), (1002, 0, 1, 0, 0, 3), (1003, 8, 0, 0, 0, 0), (1004, 32, 0, 0, 0, 0), (1005, 44, 5402, 185, 4, 0), (1008, 2, 2, 1, 0, 0), (1009, 2, 0, 1, 0, 0), (1010, 1, 3, 1, 0, 0), (1011, 0, 1, 0, 0, 1), (1012, 8, 0, 0, 0, 0), (1013, 32, 0, 0, 0, 0), (1014, 2, 0, 1, 0, 0), (1015, 1, 3, 1, 0, 0), (1016, 0, 1, 0, 0, 2), (1017, 8, 0, 0, 0, 0), (1018, 32, 0, 0, 0, 0), (1019, 2, 0, 1, 0, 0), (1020, 1, 3, 1, 0, 0), (1021, 0, 1, 0, 0, 3), (1022, 8, 0, 0, 0, 0), (1023, 32, 0, 0, 0, 0), (1024, 44, 5419, 253, 4, 0), (1027, 29, 0, 1118, 0, 0), (1030, 0, 1, 0, 0, 0), (1031, 52, 0, 0, 0, 0), (1032, 2, 1, 1, 0, 0), (1033, 44, 5434, 186, 1, 0), (1036, 2, 2, 1, 0, 0), (1037, 44, 5451, 254, 1, 0), (1040, 29, 0, 1118, 0, 0), (1043, 0, 1, 0, 0, 0), (1044, 52, 0, 0, 0, 0), (1045, 2, 1, 1, 0, 0), (1046, 2, 0, 1, 0, 0), (1047, 1, 3, 1, 0, 0), (1048, 0, 1, 0, 0, 1), (1049, 8, 0, 0, 0, 0), (1050, 32, 0, 0, 0, 0), (1051, 2, 0, 1, 0, 0), (1052, 1, 3, 1, 0, 0), (1053, 0, 1, 0, 0, 2), (1054, 8, 0, 0, 0, 0), (1055, 32, 0, 0, 0, 0), (1056, 44, 5466, 187, 3, 0), (1059, 2, 2, 1, 0, 0), (1060, 2, 0, 1, 0, 0), (1061, 1, 3, 1, 0, 0), (1062, 0, 1, 0, 0, 1), (1063, 8, 0, 0, 0, 0), (1064, 32, 0, 0, 0, 0), (1065, 2, 0, 1, 0, 0), (1066, 1, 3, 1, 0, 0), (1067, 0, 1, 0, 0, 2), (1068, 8, 0, 0, 0, 0), (1069, 32, 0, 0, 0, 0), (1070, 44, 5483, 259, 3, 0), (1073, 29, 0, 1118, 0, 0), (1076, 0, 1, 0, 0, 0), (1077, 52, 0, 0, 0, 0), (1078, 2, 1, 1, 0, 0), (1079, 44, 5498, 188, 1, 0), (1082, 2, 2, 1, 0, 0), (1083, 44, 5515, 260, 1, 0), (1086, 29, 0, 1118, 0, 0), (1089, 0, 1, 0, 0, 0), (1090, 52, 0, 0, 0, 0), (1091, 2, 1, 1, 0, 0), (1092, 44, 5530, 189, 1, 0), (1095, 2, 2, 1, 0, 0), (1096, 44, 5547, 261, 1, 0), (1099, 29, 0, 1118, 0, 0), (1102, 0, 1, 0, 0, 0), (1103, 52, 0, 0, 0, 0), (1104, 2, 1, 1, 0, 0), (1105, 44, 5562, 190, 1, 0), (1108, 2, 2, 1, 0, 0), (1109, 44, 5579, 262, 1, 0), (1112, 22, 0, 0, 0, 0), (1113, 28, 0, 1118, 0, 0), (1116, 0, 1, 0, 0, 0), (1117, 52, 0, 0, 0, 0), (1118, 7, 3, 0, 0, 6), (1121, 27, 18, 0, 0, 0), (1124, 0, 1, 0, 0, 1), (1125, 52, 0, 0, 0, 0)]
def e_ins : List (List (Nat × Instr × Nat)) := [e_in_0, e_in_1, e_in_2, e_in_3, e_in_4, e_in_5, e_in_6, e_in_7, e_in_8, e_in_9, e_in_10, e_in_11, e_in_12, e_in_13, e_in_14, e_in_15, e_in_16, e_in_17, e_in_18, e_in_19, e_in_20, e_in_21, e_in_22, e_in_23, e_in_24, e_in_25, e_in_26, e_in_27, e_in_28, e_in_29, e_in_30, e_in_31, e_in_32, e_in_33, e_in_34, e_in_35, e_in_36, e_in_37, e_in_38, e_in_39, e_in_40, e_in_41, e_in_42, e_in_43, e_in_44, e_in_45, e_in_46, e_in_47, e_in_48, e_in_49, e_in_50, e_in_51, e_in_52, e_in_53, e_in_54, e_in_55, e_in_56, e_in_57, e_in_58, e_in_59, e_in_60, e_in_61, e_in_62, e_in_63, e_in_64, e_in_65, e_in_66, e_in_67, e_in_68, e_in_69, e_in_70, e_in_71, e_in_72, e_in_73, e_in_74, e_in_75, e_in_76, e_in_77, e_in_78, e_in_79, e_in_80, e_in_81, e_in_82, e_in_83, e_in_84, e_in_85, e_in_86, e_in_87, e_in_88, e_in_89, e_in_90, e_in_91, e_in_92, e_in_93, e_in_94, e_in_95, e_in_96, e_in_97, e_in_98, e_in_99, e_in_100, e_in_101, e_in_102, e_in_103, e_in_104, e_in_105, e_in_106, e_in_107, e_in_108, e_in_109, e_in_110, e_in_111, e_in_112, e_in_113, e_in_114, e_in_115, e_in_116, e_in_117, e_in_118, e_in_119, e_in_120, e_in_121, e_in_122, e_in_123, e_in_124, e_in_125, e_in_126, e_in_127, e_in_128, e_in_129, e_in_130, e_in_131, e_in_132, e_in_133, e_in_134, e_in_135, e_in_136, e_in_137, e_in_138, e_in_139, e_in_140, e_in_141, e_in_142, e_in_143, e_in_144, e_in_145, e_in_146, e_in_147, e_in_148, e_in_149, e_in_150, e_in_151, e_in_152, e_in_153, e_in_154, e_in_155, e_in_156, e_in_157, e_in_158, e_in_159, e_in_160, e_in_161, e_in_162, e_in_163, e_in_164, e_in_165, e_in_166, e_in_167, e_in_168, e_in_169, e_in_170, e_in_171, e_in_172, e_in_173, e_in_174, e_in_175, e_in_176, e_in_177, e_in_178, e_in_179, e_in_180, e_in_181, e_in_182, e_in_183, e_in_184, e_in_185, e_in_186, e_in_187, e_in_188, e_in_189, e_in_190, e_in_191, e_in_192, e_in_193, e_in_194, e_in_195, e_in_196, e_in_197, e_in_198, e_in_199, e_in_200, e_in_201, e_in_202, e_in_203, e_in_204, e_in_205, e_in_206, e_in_207, e_in_208, e_in_209, e_in_210, e_in_211, e_in_212, e_in_213, e_in_214, e_in_215, e_in_216, e_in_217, e_in_218, e_in_219, e_in_220, e_in_221, e_in_222, e_in_223, e_in_224, e_in_225, e_in_226, e_in_227, e_in_228, e_in_229, e_in_230, e_in_231, e_in_232, e_in_233, e_in_234, e_in_235, e_in_236, e_in_237, e_in_238, e_in_239, e_in_240, e_in_241, e_in_242, e_in_243, e_in_244, e_in_245, e_in_246, e_in_247, e_in_248, e_in_249, e_in_250, e_in_251, e_in_252, e_in_253, e_in_254, e_in_255, e_in_256, e_in_257, e_in_258, e_in_259, e_in_260, e_in_261, e_in_262, e_in_263, e_in_264, e_in_265, e_in_266, e_in_267, e_in_268]
def e_pgs : List (List (Nat × e_PI)) := [e_pg_0, e_pg_1, e_pg_2, e_pg_3, e_pg_4, e_pg_5, e_pg_6, e_pg_7, e_pg_8, e_pg_9, e_pg_10, e_pg_11, e_pg_12, e_pg_13, e_pg_14, e_pg_15, e_pg_16, e_pg_17, e_pg_18, e_pg_19, e_pg_20, e_pg_21, e_pg_22, e_pg_23, e_pg_24, e_pg_25, e_pg_26, e_pg_27, e_pg_28, e_pg_29, e_pg_30, e_pg_31, e_pg_32, e_pg_33, e_pg_34, e_pg_35, e_pg_36, e_pg_37, e_pg_38, e_pg_39, e_pg_40, e_pg_41, e_pg_42, e_pg_43, e_pg_44, e_pg_45, e_pg_46, e_pg_47, e_pg_48, e_pg_49, e_pg_50, e_pg_51, e_pg_52, e_pg_53, e_pg_54, e_pg_55, e_pg_56, e_pg_57, e_pg_58, e_pg_59, e_pg_60, e_pg_61, e_pg_62, e_pg_63, e_pg_64, e_pg_65, e_pg_66, e_pg_67, e_pg_68, e_pg_69, e_pg_70, e_pg_71, e_pg_72, e_pg_73, e_pg_74, e_pg_75, e_pg_76, e_pg_77, e_pg_78, e_pg_79, e_pg_80, e_pg_81, e_pg_82, e_pg_83, e_pg_84, e_pg_85, e_pg_86, e_pg_87, e_pg_88, e_pg_89, e_pg_90, e_pg_91, e_pg_92, e_pg_93, e_pg_94, e_pg_95, e_pg_96, e_pg_97, e_pg_98, e_pg_99, e_pg_100, e_pg_101, e_pg_102, e_pg_103, e_pg_104, e_pg_105, e_pg_106, e_pg_107, e_pg_108, e_pg_109, e_pg_110, e_pg_111, e_pg_112, e_pg_113, e_pg_114, e_pg_115, e_pg_116, e_pg_117, e_pg_118, e_pg_119, e_pg_120, e_pg_121, e_pg_122, e_pg_123, e_pg_124, e_pg_125, e_pg_126, e_pg_127, e_pg_128, e_pg_129, e_pg_130, e_pg_131, e_pg_132, e_pg_133, e_pg_134, e_pg_135, e_pg_136, e_pg_137, e_pg_138, e_pg_139, e_pg_140, e_pg_141, e_pg_142, e_pg_143, e_pg_144, e_pg_145, e_pg_146, e_pg_147, e_pg_148, e_pg_149, e_pg_150, e_pg_151, e_pg_152, e_pg_153, e_pg_154, e_pg_155, e_pg_156, e_pg_157, e_pg_158, e_pg_159, e_pg_160, e_pg_161, e_pg_162, e_pg_163, e_pg_164, e_pg_165, e_pg_166, e_pg_167, e_pg_168, e_pg_169, e_pg_170, e_pg_171, e_pg_172, e_pg_173, e_pg_174, e_pg_175, e_pg_176, e_pg_177, e_pg_178, e_pg_179, e_pg_180, e_pg_181, e_pg_182, e_pg_183, e_pg_184, e_pg_185, e_pg_186, e_pg_187, e_pg_188, e_pg_189, e_pg_190, e_pg_191, e_pg_192, e_pg_193, e_pg_194, e_pg_195, e_pg_196, e_pg_197, e_pg_198, e_pg_199, e_pg_200, e_pg_201, e_pg_202, e_pg_203, e_pg_204, e_pg_205, e_pg_206, e_pg_207, e_pg_208, e_pg_209, e_pg_210, e_pg_211, e_pg_212, e_pg_213, e_pg_214, e_pg_215, e_pg_216, e_pg_217, e_pg_218, e_pg_219, e_pg_220, e_pg_221, e_pg_222, e_pg_223, e_pg_224, e_pg_225, e_pg_226, e_pg_227, e_pg_228, e_pg_229, e_pg_230, e_pg_231, e_pg_232, e_pg_233, e_pg_234, e_pg_235, e_pg_236, e_pg_237, e_pg_238, e_pg_239, e_pg_240, e_pg_241, e_pg_242, e_pg_243, e_pg_244, e_pg_245, e_pg_246, e_pg_247, e_pg_248, e_pg_249, e_pg_250, e_pg_251, e_pg_252, e_pg_253, e_pg_254, e_pg_255, e_pg_256, e_pg_257, e_pg_258, e_pg_259, e_pg_260, e_pg_261, e_pg_262, e_pg_263, e_pg_264, e_pg_265, e_pg_266, e_pg_267, e_pg_268]
