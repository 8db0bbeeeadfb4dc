/-! ===== BEGIN words of one list among another's, by their places ===== -/
theorem goodIn_r {big : List Cond} (ws : List Cond) (ps : List Nat) (hp : ws = ps.filterMap (fun i => big[i]?)) (h : ws.all goodWord = true) : GoodIn big ws := by
  intro w hw
  have h1 := List.all_eq_true.mp h w hw
  rw [hp] at hw
  obtain ⟨i, -, hi⟩ := List.mem_filterMap.mp hw
  have hm : w ∈ big := by first | exact List.mem_of_getElem? hi | exact List.getElem?_mem hi
  exact ⟨hm, good_of_word h1⟩
theorem goodIn_app {big a b : List Cond} (ha : GoodIn big a) (hb : GoodIn big b) : GoodIn big (a ++ b) := fun w h => (List.mem_append.mp h).elim (ha w) (hb w)
theorem goodIn_ca {big a b : List Cond} {c : Cond} (ha : GoodIn big (c :: a)) (hb : GoodIn big b) : GoodIn big (c :: (a ++ b)) := fun w h => (List.mem_cons.mp h).elim (fun e => ha w (List.mem_cons.mpr (Or.inl e))) (fun h => (List.mem_append.mp h).elim (fun h => ha w (List.mem_cons.mpr (Or.inr h))) (hb w))
theorem goodIn_sub {big ws : List Cond} (hm : ∀ w ∈ ws, w ∈ big) (h : ws.all goodWord = true) : GoodIn big ws := fun w hw => ⟨hm w hw, good_of_word (List.all_eq_true.mp h w hw)⟩
def RX0 : String := "TwoPens$Column"
def TX0 : u_T := fun k => match k with
  | 0 => ("TwoPens$Line", "kind", "I", true)
  | 1 => ("TwoPens$Line", "number", "I", true)
  | 2 => ("TwoPens$Line", "v", "I", true)
  | _ => ("TwoPens$Line", "slow", "I", true)
def tyX0 : Nat → FieldType := fun k => match k with
  | 0 => .int
  | 1 => .int
  | 2 => .int
  | _ => .int
abbrev wsX00 : List Cond := u_ws RX0 TX0 4
theorem nmX0 : ∀ a, a < 4 → ∀ b, b < 4 → a ≠ b → (TX0 a).2.1 ≠ (TX0 b).2.1 := by decide +kernel
theorem tyX0_ok : ∀ k, k < 4 → parseFieldDescriptor (TX0 k).2.2.1 = some (tyX0 k) := by decide +kernel
abbrev cX0_init : ByteArray := prog_2_method_1_code
def yX0_init : MethodName := ⟨RX0, "<init>", "(IIII)V"⟩
abbrev cX0_seconds : ByteArray := prog_2_method_2_code
def yX0_seconds : MethodName := ⟨RX0, "seconds", "(I)I"⟩
abbrev cX0_shows : ByteArray := prog_2_method_3_code
def yX0_shows : MethodName := ⟨RX0, "shows", "(ILTwoPens$Trace;)I"⟩
def RX1 : String := "TwoPens$Copied"
def TX1 : u_T := fun k => match k with
  | 0 => ("TwoPens$Line", "kind", "I", true)
  | 1 => ("TwoPens$Line", "number", "I", true)
  | 2 => ("TwoPens$Line", "v", "I", true)
  | _ => ("TwoPens$Line", "slow", "I", true)
def tyX1 : Nat → FieldType := fun k => match k with
  | 0 => .int
  | 1 => .int
  | 2 => .int
  | _ => .int
abbrev wsX10 : List Cond := u_ws RX1 TX1 4
theorem nmX1 : ∀ a, a < 4 → ∀ b, b < 4 → a ≠ b → (TX1 a).2.1 ≠ (TX1 b).2.1 := by decide +kernel
theorem tyX1_ok : ∀ k, k < 4 → parseFieldDescriptor (TX1 k).2.2.1 = some (tyX1 k) := by decide +kernel
abbrev cX1_init : ByteArray := prog_3_method_1_code
def yX1_init : MethodName := ⟨RX1, "<init>", "(III)V"⟩
abbrev cX1_seconds : ByteArray := prog_3_method_2_code
def yX1_seconds : MethodName := ⟨RX1, "seconds", "(I)I"⟩
abbrev cX1_writes : ByteArray := prog_3_method_3_code
def yX1_writes : MethodName := ⟨RX1, "writes", "(ILTwoPens$Trace;)I"⟩
def RX2 : String := "TwoPens$Desk"
def TX2 : u_T := fun k => match k with
  | 0 => ("TwoPens$Desk", "ways", "[LTwoPens$Line;", true)
  | 1 => ("TwoPens$Desk", "wayCount", "I", false)
  | 2 => ("TwoPens$Desk", "holding", "LTwoPens$School;", false)
  | 3 => ("TwoPens$Desk", "schools", "I", false)
  | 4 => ("TwoPens$Desk", "tape", "LTwoPens$Numbers;", true)
  | 5 => ("TwoPens$Desk", "sheet", "LTwoPens$Numbers;", true)
  | 6 => ("TwoPens$Desk", "spent", "I", false)
  | 7 => ("TwoPens$Desk", "paid", "I", false)
  | 8 => ("TwoPens$Desk", "places", "LTwoPens$Numbers;", true)
  | 9 => ("TwoPens$Desk", "shown", "LTwoPens$Numbers;", true)
  | 10 => ("TwoPens$Desk", "days", "LTwoPens$Numbers;", true)
  | 11 => ("TwoPens$Desk", "bookPlaces", "LTwoPens$Numbers;", true)
  | _ => ("TwoPens$Desk", "bookWays", "LTwoPens$Numbers;", true)
def tyX2 : Nat → FieldType := fun k => match k with
  | 0 => .array (.object "TwoPens$Line")
  | 1 => .int
  | 2 => .object "TwoPens$School"
  | 3 => .int
  | 4 => .object "TwoPens$Numbers"
  | 5 => .object "TwoPens$Numbers"
  | 6 => .int
  | 7 => .int
  | 8 => .object "TwoPens$Numbers"
  | 9 => .object "TwoPens$Numbers"
  | 10 => .object "TwoPens$Numbers"
  | 11 => .object "TwoPens$Numbers"
  | _ => .object "TwoPens$Numbers"
abbrev wsX20 : List Cond := u_ws RX2 TX2 13
theorem nmX2 : ∀ a, a < 13 → ∀ b, b < 13 → a ≠ b → (TX2 a).2.1 ≠ (TX2 b).2.1 := by decide +kernel
theorem tyX2_ok : ∀ k, k < 13 → parseFieldDescriptor (TX2 k).2.2.1 = some (tyX2 k) := by decide +kernel
abbrev cX2_init : ByteArray := prog_4_method_1_code
def yX2_init : MethodName := ⟨RX2, "<init>", "()V"⟩
abbrev cX2_copyAll : ByteArray := prog_4_method_2_code
def yX2_copyAll : MethodName := ⟨RX2, "copyAll", "(LTwoPens$Desk;)V"⟩
abbrev cX2_wayCount : ByteArray := prog_4_method_3_code
def yX2_wayCount : MethodName := ⟨RX2, "wayCount", "()I"⟩
abbrev cX2_wayOf : ByteArray := prog_4_method_4_code
def yX2_wayOf : MethodName := ⟨RX2, "wayOf", "(I)LTwoPens$Line;"⟩
abbrev cX2_addWay : ByteArray := prog_4_method_5_code
def yX2_addWay : MethodName := ⟨RX2, "addWay", "(LTwoPens$Line;)Z"⟩
abbrev cX2_putWay : ByteArray := prog_4_method_6_code
def yX2_putWay : MethodName := ⟨RX2, "putWay", "(ILTwoPens$Line;)V"⟩
abbrev cX2_secondsOf : ByteArray := prog_4_method_7_code
def yX2_secondsOf : MethodName := ⟨RX2, "secondsOf", "(II)I"⟩
abbrev cX2_penceOf : ByteArray := prog_4_method_8_code
def yX2_penceOf : MethodName := ⟨RX2, "penceOf", "(II)I"⟩
abbrev cX2_placeCount : ByteArray := prog_4_method_9_code
def yX2_placeCount : MethodName := ⟨RX2, "placeCount", "()I"⟩
abbrev cX2_placeAt : ByteArray := prog_4_method_10_code
def yX2_placeAt : MethodName := ⟨RX2, "placeAt", "(I)I"⟩
abbrev cX2_signAt : ByteArray := prog_4_method_11_code
def yX2_signAt : MethodName := ⟨RX2, "signAt", "(I)I"⟩
abbrev cX2_signIf : ByteArray := prog_4_method_12_code
def yX2_signIf : MethodName := ⟨RX2, "signIf", "(III)I"⟩
abbrev cX2_numberIf : ByteArray := prog_4_method_13_code
def yX2_numberIf : MethodName := ⟨RX2, "numberIf", "(III)I"⟩
abbrev cX2_unseenNow : ByteArray := prog_4_method_14_code
def yX2_unseenNow : MethodName := ⟨RX2, "unseenNow", "()J"⟩
abbrev cX2_unseenIf : ByteArray := prog_4_method_15_code
def yX2_unseenIf : MethodName := ⟨RX2, "unseenIf", "(II)J"⟩
abbrev cX2_writtenIf : ByteArray := prog_4_method_16_code
def yX2_writtenIf : MethodName := ⟨RX2, "writtenIf", "(II)I"⟩
def RX3 : String := "TwoPens$Lent"
def TX3 : u_T := fun k => match k with
  | 0 => ("TwoPens$Line", "kind", "I", true)
  | 1 => ("TwoPens$Line", "number", "I", true)
  | 2 => ("TwoPens$Line", "v", "I", true)
  | _ => ("TwoPens$Line", "slow", "I", true)
def tyX3 : Nat → FieldType := fun k => match k with
  | 0 => .int
  | 1 => .int
  | 2 => .int
  | _ => .int
abbrev wsX30 : List Cond := u_ws RX3 TX3 4
theorem nmX3 : ∀ a, a < 4 → ∀ b, b < 4 → a ≠ b → (TX3 a).2.1 ≠ (TX3 b).2.1 := by decide +kernel
theorem tyX3_ok : ∀ k, k < 4 → parseFieldDescriptor (TX3 k).2.2.1 = some (tyX3 k) := by decide +kernel
abbrev cX3_init : ByteArray := prog_5_method_1_code
def yX3_init : MethodName := ⟨RX3, "<init>", "(IIII)V"⟩
abbrev cX3_seconds : ByteArray := prog_5_method_2_code
def yX3_seconds : MethodName := ⟨RX3, "seconds", "(I)I"⟩
abbrev cX3_pence : ByteArray := prog_5_method_3_code
def yX3_pence : MethodName := ⟨RX3, "pence", "(I)I"⟩
abbrev cX3_tells : ByteArray := prog_5_method_4_code
def yX3_tells : MethodName := ⟨RX3, "tells", "(ILTwoPens$Trace;)I"⟩
def RX4 : String := "TwoPens$Line"
def TX4 : u_T := fun k => match k with
  | 0 => ("TwoPens$Line", "kind", "I", true)
  | 1 => ("TwoPens$Line", "number", "I", true)
  | 2 => ("TwoPens$Line", "v", "I", true)
  | _ => ("TwoPens$Line", "slow", "I", true)
def tyX4 : Nat → FieldType := fun k => match k with
  | 0 => .int
  | 1 => .int
  | 2 => .int
  | _ => .int
abbrev wsX40 : List Cond := u_ws RX4 TX4 4
theorem nmX4 : ∀ a, a < 4 → ∀ b, b < 4 → a ≠ b → (TX4 a).2.1 ≠ (TX4 b).2.1 := by decide +kernel
theorem tyX4_ok : ∀ k, k < 4 → parseFieldDescriptor (TX4 k).2.2.1 = some (tyX4 k) := by decide +kernel
abbrev cX4_init : ByteArray := prog_6_method_1_code
def yX4_init : MethodName := ⟨RX4, "<init>", "(IIII)V"⟩
abbrev cX4_seconds : ByteArray := prog_6_method_2_code
def yX4_seconds : MethodName := ⟨RX4, "seconds", "(I)I"⟩
abbrev cX4_pence : ByteArray := prog_6_method_3_code
def yX4_pence : MethodName := ⟨RX4, "pence", "(I)I"⟩
abbrev cX4_writes : ByteArray := prog_6_method_4_code
def yX4_writes : MethodName := ⟨RX4, "writes", "(ILTwoPens$Trace;)I"⟩
abbrev cX4_shows : ByteArray := prog_6_method_5_code
def yX4_shows : MethodName := ⟨RX4, "shows", "(ILTwoPens$Trace;)I"⟩
abbrev cX4_tells : ByteArray := prog_6_method_6_code
def yX4_tells : MethodName := ⟨RX4, "tells", "(ILTwoPens$Trace;)I"⟩
def RX5 : String := "TwoPens$Numbers"
def TX5 : u_T := fun k => match k with
  | 0 => ("TwoPens$Numbers", "items", "[I", true)
  | _ => ("TwoPens$Numbers", "size", "I", false)
def tyX5 : Nat → FieldType := fun k => match k with
  | 0 => .array .int
  | _ => .int
abbrev wsX50 : List Cond := u_ws RX5 TX5 2
theorem nmX5 : ∀ a, a < 2 → ∀ b, b < 2 → a ≠ b → (TX5 a).2.1 ≠ (TX5 b).2.1 := by decide +kernel
theorem tyX5_ok : ∀ k, k < 2 → parseFieldDescriptor (TX5 k).2.2.1 = some (tyX5 k) := by decide +kernel
abbrev cX5_init : ByteArray := prog_7_method_1_code
def yX5_init : MethodName := ⟨RX5, "<init>", "(I)V"⟩
abbrev cX5_size : ByteArray := prog_7_method_2_code
def yX5_size : MethodName := ⟨RX5, "size", "()I"⟩
abbrev cX5_hasPlace : ByteArray := prog_7_method_3_code
def yX5_hasPlace : MethodName := ⟨RX5, "hasPlace", "(I)Z"⟩
abbrev cX5_get : ByteArray := prog_7_method_4_code
def yX5_get : MethodName := ⟨RX5, "get", "(I)I"⟩
abbrev cX5_add : ByteArray := prog_7_method_5_code
def yX5_add : MethodName := ⟨RX5, "add", "(I)Z"⟩
abbrev cX5_clear : ByteArray := prog_7_method_6_code
def yX5_clear : MethodName := ⟨RX5, "clear", "()V"⟩
abbrev cX5_timesOf : ByteArray := prog_7_method_7_code
def yX5_timesOf : MethodName := ⟨RX5, "timesOf", "(I)I"⟩
abbrev cX5_copy : ByteArray := prog_7_method_8_code
def yX5_copy : MethodName := ⟨RX5, "copy", "(LTwoPens$Numbers;)V"⟩
def RX6 : String := "TwoPens$School"
def TX6 : u_T := fun k => match k with
  | 0 => ("TwoPens$School", "want", "I", false)
  | 1 => ("TwoPens$School", "look", "I", false)
  | 2 => ("TwoPens$School", "count", "I", false)
  | 3 => ("TwoPens$School", "codes", "[I", true)
  | _ => ("TwoPens$School", "size", "I", false)
def tyX6 : Nat → FieldType := fun k => match k with
  | 0 => .int
  | 1 => .int
  | 2 => .int
  | 3 => .array .int
  | _ => .int
abbrev wsX60 : List Cond := u_ws RX6 TX6 5
theorem nmX6 : ∀ a, a < 5 → ∀ b, b < 5 → a ≠ b → (TX6 a).2.1 ≠ (TX6 b).2.1 := by decide +kernel
theorem tyX6_ok : ∀ k, k < 5 → parseFieldDescriptor (TX6 k).2.2.1 = some (tyX6 k) := by decide +kernel
abbrev cX6_init : ByteArray := prog_8_method_1_code
def yX6_init : MethodName := ⟨RX6, "<init>", "()V"⟩
abbrev cX6_read : ByteArray := prog_8_method_2_code
def yX6_read : MethodName := ⟨RX6, "read", "(LTwoPens$Numbers;)I"⟩
abbrev cX6_stuck : ByteArray := prog_8_method_3_code
def yX6_stuck : MethodName := ⟨RX6, "stuck", "(I)I"⟩
abbrev cX6_expect : ByteArray := prog_8_method_4_code
def yX6_expect : MethodName := ⟨RX6, "expect", "(LTwoPens$Numbers;II)I"⟩
abbrev cX6_clause : ByteArray := prog_8_method_5_code
def yX6_clause : MethodName := ⟨RX6, "clause", "(LTwoPens$Numbers;I)I"⟩
abbrev cX6_setting : ByteArray := prog_8_method_6_code
def yX6_setting : MethodName := ⟨RX6, "setting", "(LTwoPens$Numbers;ILjava/lang/String;)I"⟩
abbrev cX6_sees : ByteArray := prog_8_method_7_code
def yX6_sees : MethodName := ⟨RX6, "sees", "(LTwoPens$Numbers;I)I"⟩
abbrev cX6_words : ByteArray := prog_8_method_8_code
def yX6_words : MethodName := ⟨RX6, "words", "(LTwoPens$Numbers;ILjava/lang/String;)I"⟩
abbrev cX6_digits : ByteArray := prog_8_method_9_code
def yX6_digits : MethodName := ⟨RX6, "digits", "(LTwoPens$Numbers;I)I"⟩
abbrev cX6_isFigure : ByteArray := prog_8_method_10_code
def yX6_isFigure : MethodName := ⟨RX6, "isFigure", "(I)Z"⟩
abbrev cX6_valueOf : ByteArray := prog_8_method_11_code
def yX6_valueOf : MethodName := ⟨RX6, "valueOf", "(LTwoPens$Numbers;II)I"⟩
abbrev cX6_either : ByteArray := prog_8_method_12_code
def yX6_either : MethodName := ⟨RX6, "either", "(LTwoPens$Numbers;II)I"⟩
abbrev cX6_both : ByteArray := prog_8_method_13_code
def yX6_both : MethodName := ⟨RX6, "both", "(LTwoPens$Numbers;II)I"⟩
abbrev cX6_single : ByteArray := prog_8_method_14_code
def yX6_single : MethodName := ⟨RX6, "single", "(LTwoPens$Numbers;II)I"⟩
abbrev cX6_test : ByteArray := prog_8_method_15_code
def yX6_test : MethodName := ⟨RX6, "test", "(LTwoPens$Numbers;I)I"⟩
abbrev cX6_placeIn : ByteArray := prog_8_method_16_code
def yX6_placeIn : MethodName := ⟨RX6, "placeIn", "(Ljava/lang/String;I)I"⟩
abbrev cX6_put : ByteArray := prog_8_method_17_code
def yX6_put : MethodName := ⟨RX6, "put", "(I)V"⟩
abbrev cX6_signOf : ByteArray := prog_8_method_18_code
def yX6_signOf : MethodName := ⟨RX6, "signOf", "(LTwoPens$Line;II)I"⟩
abbrev cX6_holds : ByteArray := prog_8_method_19_code
def yX6_holds : MethodName := ⟨RX6, "holds", "(ILTwoPens$Line;II)Z"⟩
abbrev cX6_valueAsked : ByteArray := prog_8_method_20_code
def yX6_valueAsked : MethodName := ⟨RX6, "valueAsked", "(ILTwoPens$Line;II)I"⟩
def RX7 : String := "TwoPens$Told"
def TX7 : u_T := fun k => match k with
  | 0 => ("TwoPens$Line", "kind", "I", true)
  | 1 => ("TwoPens$Line", "number", "I", true)
  | 2 => ("TwoPens$Line", "v", "I", true)
  | 3 => ("TwoPens$Line", "slow", "I", true)
  | _ => ("TwoPens$Told", "row", "[I", true)
def tyX7 : Nat → FieldType := fun k => match k with
  | 0 => .int
  | 1 => .int
  | 2 => .int
  | 3 => .int
  | _ => .array .int
abbrev wsX70 : List Cond := u_ws RX7 TX7 5
theorem nmX7 : ∀ a, a < 5 → ∀ b, b < 5 → a ≠ b → (TX7 a).2.1 ≠ (TX7 b).2.1 := by decide +kernel
theorem tyX7_ok : ∀ k, k < 5 → parseFieldDescriptor (TX7 k).2.2.1 = some (tyX7 k) := by decide +kernel
abbrev cX7_init : ByteArray := prog_9_method_1_code
def yX7_init : MethodName := ⟨RX7, "<init>", "(III[I)V"⟩
abbrev cX7_rowAt : ByteArray := prog_9_method_2_code
def yX7_rowAt : MethodName := ⟨RX7, "rowAt", "(I)I"⟩
abbrev cX7_withRow : ByteArray := prog_9_method_3_code
def yX7_withRow : MethodName := ⟨RX7, "withRow", "(II)LTwoPens$Told;"⟩
abbrev cX7_seconds : ByteArray := prog_9_method_4_code
def yX7_seconds : MethodName := ⟨RX7, "seconds", "(I)I"⟩
abbrev cX7_shows : ByteArray := prog_9_method_5_code
def yX7_shows : MethodName := ⟨RX7, "shows", "(ILTwoPens$Trace;)I"⟩
def RX8 : String := "TwoPens$Trace"
def TX8 : u_T := fun k => match k with
  | 0 => ("TwoPens$Trace", "bodies", "[I", true)
  | _ => ("TwoPens$Trace", "all", "I", false)
def tyX8 : Nat → FieldType := fun k => match k with
  | 0 => .array .int
  | _ => .int
abbrev wsX80 : List Cond := u_ws RX8 TX8 2
theorem nmX8 : ∀ a, a < 2 → ∀ b, b < 2 → a ≠ b → (TX8 a).2.1 ≠ (TX8 b).2.1 := by decide +kernel
theorem tyX8_ok : ∀ k, k < 2 → parseFieldDescriptor (TX8 k).2.2.1 = some (tyX8 k) := by decide +kernel
abbrev cX8_init : ByteArray := prog_10_method_1_code
def yX8_init : MethodName := ⟨RX8, "<init>", "()V"⟩
abbrev cX8_clear : ByteArray := prog_10_method_2_code
def yX8_clear : MethodName := ⟨RX8, "clear", "()V"⟩
abbrev cX8_ran : ByteArray := prog_10_method_3_code
def yX8_ran : MethodName := ⟨RX8, "ran", "(I)V"⟩
abbrev cX8_bodyAt : ByteArray := prog_10_method_4_code
def yX8_bodyAt : MethodName := ⟨RX8, "bodyAt", "(I)I"⟩
def RX9 : String := "TwoPens$Triple"
def TX9 : u_T := fun k => match k with
  | 0 => ("TwoPens$Line", "kind", "I", true)
  | 1 => ("TwoPens$Line", "number", "I", true)
  | 2 => ("TwoPens$Line", "v", "I", true)
  | _ => ("TwoPens$Line", "slow", "I", true)
def tyX9 : Nat → FieldType := fun k => match k with
  | 0 => .int
  | 1 => .int
  | 2 => .int
  | _ => .int
abbrev wsX90 : List Cond := u_ws RX9 TX9 4
theorem nmX9 : ∀ a, a < 4 → ∀ b, b < 4 → a ≠ b → (TX9 a).2.1 ≠ (TX9 b).2.1 := by decide +kernel
theorem tyX9_ok : ∀ k, k < 4 → parseFieldDescriptor (TX9 k).2.2.1 = some (tyX9 k) := by decide +kernel
abbrev cX9_init : ByteArray := prog_11_method_1_code
def yX9_init : MethodName := ⟨RX9, "<init>", "(III)V"⟩
abbrev cX9_seconds : ByteArray := prog_11_method_2_code
def yX9_seconds : MethodName := ⟨RX9, "seconds", "(I)I"⟩
abbrev cX9_tells : ByteArray := prog_11_method_3_code
def yX9_tells : MethodName := ⟨RX9, "tells", "(ILTwoPens$Trace;)I"⟩
def RX10 : String := "TwoPens$Twin"
def TX10 : u_T := fun k => match k with
  | 0 => ("TwoPens$Line", "kind", "I", true)
  | 1 => ("TwoPens$Line", "number", "I", true)
  | 2 => ("TwoPens$Line", "v", "I", true)
  | _ => ("TwoPens$Line", "slow", "I", true)
def tyX10 : Nat → FieldType := fun k => match k with
  | 0 => .int
  | 1 => .int
  | 2 => .int
  | _ => .int
abbrev wsX100 : List Cond := u_ws RX10 TX10 4
theorem nmX10 : ∀ a, a < 4 → ∀ b, b < 4 → a ≠ b → (TX10 a).2.1 ≠ (TX10 b).2.1 := by decide +kernel
theorem tyX10_ok : ∀ k, k < 4 → parseFieldDescriptor (TX10 k).2.2.1 = some (tyX10 k) := by decide +kernel
abbrev cX10_init : ByteArray := prog_12_method_1_code
def yX10_init : MethodName := ⟨RX10, "<init>", "(IIII)V"⟩
abbrev cX10_seconds : ByteArray := prog_12_method_2_code
def yX10_seconds : MethodName := ⟨RX10, "seconds", "(I)I"⟩
abbrev cX10_writes : ByteArray := prog_12_method_3_code
def yX10_writes : MethodName := ⟨RX10, "writes", "(ILTwoPens$Trace;)I"⟩
def RX11 : String := "TwoPens"
def TX11 : u_T := fun k => match k with
  | 0 => ("TwoPens", "desk", "LTwoPens$Desk;", true)
  | 1 => ("TwoPens", "kept", "LTwoPens$Desk;", true)
  | 2 => ("TwoPens", "keptOne", "Z", false)
  | _ => ("TwoPens", "trace", "LTwoPens$Trace;", true)
def tyX11 : Nat → FieldType := fun k => match k with
  | 0 => .object "TwoPens$Desk"
  | 1 => .object "TwoPens$Desk"
  | 2 => .boolean
  | _ => .object "TwoPens$Trace"
abbrev wsX110 : List Cond := u_ws RX11 TX11 4
theorem nmX11 : ∀ a, a < 4 → ∀ b, b < 4 → a ≠ b → (TX11 a).2.1 ≠ (TX11 b).2.1 := by decide +kernel
theorem tyX11_ok : ∀ k, k < 4 → parseFieldDescriptor (TX11 k).2.2.1 = some (tyX11 k) := by decide +kernel
abbrev cX11_init : ByteArray := prog_1_method_1_code
def yX11_init : MethodName := ⟨RX11, "<init>", "()V"⟩
abbrev cX11_feed : ByteArray := prog_1_method_2_code
def yX11_feed : MethodName := ⟨RX11, "feed", "(I)I"⟩
abbrev cX11_school : ByteArray := prog_1_method_3_code
def yX11_school : MethodName := ⟨RX11, "school", "()I"⟩
abbrev cX11_way : ByteArray := prog_1_method_4_code
def yX11_way : MethodName := ⟨RX11, "way", "(III)I"⟩
abbrev cX11_of : ByteArray := prog_1_method_5_code
def yX11_of : MethodName := ⟨RX11, "of", "(II)I"⟩
abbrev cX11_row : ByteArray := prog_1_method_6_code
def yX11_row : MethodName := ⟨RX11, "row", "(III)I"⟩
abbrev cX11_write : ByteArray := prog_1_method_7_code
def yX11_write : MethodName := ⟨RX11, "write", "(II)I"⟩
abbrev cX11_tear : ByteArray := prog_1_method_8_code
def yX11_tear : MethodName := ⟨RX11, "tear", "()I"⟩
abbrev cX11_line : ByteArray := prog_1_method_9_code
def yX11_line : MethodName := ⟨RX11, "line", "(II)I"⟩
abbrev cX11_told : ByteArray := prog_1_method_10_code
def yX11_told : MethodName := ⟨RX11, "told", "(I)I"⟩
abbrev cX11_cost : ByteArray := prog_1_method_11_code
def yX11_cost : MethodName := ⟨RX11, "cost", "(III)I"⟩
abbrev cX11_looks : ByteArray := prog_1_method_12_code
def yX11_looks : MethodName := ⟨RX11, "looks", "(I)I"⟩
abbrev cX11_safe : ByteArray := prog_1_method_13_code
def yX11_safe : MethodName := ⟨RX11, "safe", "(I)J"⟩
abbrev cX11_again : ByteArray := prog_1_method_14_code
def yX11_again : MethodName := ⟨RX11, "again", "(I)J"⟩
abbrev cX11_twice : ByteArray := prog_1_method_15_code
def yX11_twice : MethodName := ⟨RX11, "twice", "(II)J"⟩
abbrev cX11_quick : ByteArray := prog_1_method_16_code
def yX11_quick : MethodName := ⟨RX11, "quick", "(III)I"⟩
abbrev cX11_change : ByteArray := prog_1_method_17_code
def yX11_change : MethodName := ⟨RX11, "change", "(III)I"⟩
abbrev cX11_rests : ByteArray := prog_1_method_18_code
def yX11_rests : MethodName := ⟨RX11, "rests", "(IIII)I"⟩
abbrev cX11_mend : ByteArray := prog_1_method_19_code
def yX11_mend : MethodName := ⟨RX11, "mend", "(I)I"⟩
abbrev cX11_where : ByteArray := prog_1_method_20_code
def yX11_where : MethodName := ⟨RX11, "where", "(I)I"⟩
abbrev cX11_left : ByteArray := prog_1_method_21_code
def yX11_left : MethodName := ⟨RX11, "left", "()I"⟩
abbrev cX11_longest : ByteArray := prog_1_method_22_code
def yX11_longest : MethodName := ⟨RX11, "longest", "(I)I"⟩
abbrev cX11_show : ByteArray := prog_1_method_23_code
def yX11_show : MethodName := ⟨RX11, "show", "(I)I"⟩
abbrev cX11_whose : ByteArray := prog_1_method_24_code
def yX11_whose : MethodName := ⟨RX11, "whose", "()I"⟩
abbrev cX11_wanted : ByteArray := prog_1_method_25_code
def yX11_wanted : MethodName := ⟨RX11, "wanted", "(I)I"⟩
abbrev cX11_stock : ByteArray := prog_1_method_26_code
def yX11_stock : MethodName := ⟨RX11, "stock", "(II)I"⟩
abbrev cX11_mean : ByteArray := prog_1_method_27_code
def yX11_mean : MethodName := ⟨RX11, "mean", "(III)J"⟩
abbrev cX11_table : ByteArray := prog_1_method_28_code
def yX11_table : MethodName := ⟨RX11, "table", "(IIIII)J"⟩
abbrev cX11_book : ByteArray := prog_1_method_29_code
def yX11_book : MethodName := ⟨RX11, "book", "(II)I"⟩
abbrev cX11_looked : ByteArray := prog_1_method_30_code
def yX11_looked : MethodName := ⟨RX11, "looked", "()I"⟩
abbrev cX11_act : ByteArray := prog_1_method_31_code
def yX11_act : MethodName := ⟨RX11, "act", "(III)I"⟩
abbrev cX11_trace : ByteArray := prog_1_method_32_code
def yX11_trace : MethodName := ⟨RX11, "trace", "(I)I"⟩
abbrev cX11_as : ByteArray := prog_1_method_33_code
def yX11_as : MethodName := ⟨RX11, "as", "(II)I"⟩
abbrev cX11_image : ByteArray := prog_1_method_34_code
def yX11_image : MethodName := ⟨RX11, "image", "()I"⟩
abbrev cX11_undo : ByteArray := prog_1_method_35_code
def yX11_undo : MethodName := ⟨RX11, "undo", "()I"⟩
abbrev cX11_count : ByteArray := prog_1_method_36_code
def yX11_count : MethodName := ⟨RX11, "count", "(I)I"⟩
abbrev cX11_isDigit : ByteArray := prog_1_method_37_code
def yX11_isDigit : MethodName := ⟨RX11, "isDigit", "(I)Z"⟩
abbrev cX11_isLength : ByteArray := prog_1_method_38_code
def yX11_isLength : MethodName := ⟨RX11, "isLength", "(I)Z"⟩
abbrev cX11_isPlace : ByteArray := prog_1_method_39_code
def yX11_isPlace : MethodName := ⟨RX11, "isPlace", "(I)Z"⟩
abbrev cX11_isPence : ByteArray := prog_1_method_40_code
def yX11_isPence : MethodName := ⟨RX11, "isPence", "(I)Z"⟩
abbrev cX11_isCost : ByteArray := prog_1_method_41_code
def yX11_isCost : MethodName := ⟨RX11, "isCost", "(I)Z"⟩
abbrev cX11_isEntry : ByteArray := prog_1_method_42_code
def yX11_isEntry : MethodName := ⟨RX11, "isEntry", "(I)Z"⟩
abbrev cX11_isPart : ByteArray := prog_1_method_43_code
def yX11_isPart : MethodName := ⟨RX11, "isPart", "(I)Z"⟩
abbrev cX11_hundreds : ByteArray := prog_1_method_44_code
def yX11_hundreds : MethodName := ⟨RX11, "hundreds", "(I)J"⟩
abbrev cX11_lowest : ByteArray := prog_1_method_45_code
def yX11_lowest : MethodName := ⟨RX11, "lowest", "(JJI)J"⟩
abbrev cX11_common : ByteArray := prog_1_method_46_code
def yX11_common : MethodName := ⟨RX11, "common", "(JJ)J"⟩
abbrev cX11_bestChangeAt : ByteArray := prog_1_method_47_code
def yX11_bestChangeAt : MethodName := ⟨RX11, "bestChangeAt", "(III)I"⟩
abbrev cX11_withRests : ByteArray := prog_1_method_48_code
def yX11_withRests : MethodName := ⟨RX11, "withRests", "(IIII)I"⟩
abbrev cX11_nextWhere : ByteArray := prog_1_method_49_code
def yX11_nextWhere : MethodName := ⟨RX11, "nextWhere", "(II)I"⟩
abbrev cX11_couldBeBy : ByteArray := prog_1_method_50_code
def yX11_couldBeBy : MethodName := ⟨RX11, "couldBeBy", "(I)Z"⟩
abbrev cX11_bestStock : ByteArray := prog_1_method_51_code
def yX11_bestStock : MethodName := ⟨RX11, "bestStock", "(II)I"⟩
abbrev cX11_costOfStock : ByteArray := prog_1_method_52_code
def yX11_costOfStock : MethodName := ⟨RX11, "costOfStock", "(III)I"⟩
abbrev cX11_made : ByteArray := prog_1_method_53_code
def yX11_made : MethodName := ⟨RX11, "made", "(IIII)LTwoPens$Line;"⟩
abbrev cX11_isUnder : ByteArray := prog_1_method_54_code
def yX11_isUnder : MethodName := ⟨RX11, "isUnder", "(LTwoPens$Line;I)Z"⟩
def RX12 : String := "TwoPensModel"
def TX12 : u_T := fun k => match k with
  | 0 => ("TwoPensModel", "thrown", "I", false)
  | 1 => ("TwoPensModel", "s", "[I", true)
  | 2 => ("TwoPensModel", "image", "[I", true)
  | 3 => ("TwoPensModel", "hasImage", "Z", false)
  | 4 => ("TwoPensModel", "act", "I", false)
  | 5 => ("TwoPensModel", "spot", "I", false)
  | 6 => ("TwoPensModel", "end", "I", false)
  | 7 => ("TwoPensModel", "isWrong", "Z", false)
  | 8 => ("TwoPensModel", "open", "I", false)
  | 9 => ("TwoPensModel", "by", "[I", true)
  | 10 => ("TwoPensModel", "truths", "[Z", true)
  | 11 => ("TwoPensModel", "places", "[I", true)
  | 12 => ("TwoPensModel", "placeMany", "I", false)
  | 13 => ("TwoPensModel", "bestSeconds", "I", false)
  | 14 => ("TwoPensModel", "bestFirst", "I", false)
  | 15 => ("TwoPensModel", "bestAt", "I", false)
  | 16 => ("TwoPensModel", "bestSecond", "I", false)
  | 17 => ("TwoPensModel", "signs", "[I", true)
  | 18 => ("TwoPensModel", "leastCost", "I", false)
  | 19 => ("TwoPensModel", "bodies", "[I", true)
  | 20 => ("TwoPensModel", "ran", "I", false)
  | 21 => ("TwoPensModel", "kind", "I", false)
  | 22 => ("TwoPensModel", "number", "I", false)
  | _ => ("TwoPensModel", "tellsV", "I", false)
def tyX12 : Nat → FieldType := fun k => match k with
  | 0 => .int
  | 1 => .array .int
  | 2 => .array .int
  | 3 => .boolean
  | 4 => .int
  | 5 => .int
  | 6 => .int
  | 7 => .boolean
  | 8 => .int
  | 9 => .array .int
  | 10 => .array .boolean
  | 11 => .array .int
  | 12 => .int
  | 13 => .int
  | 14 => .int
  | 15 => .int
  | 16 => .int
  | 17 => .array .int
  | 18 => .int
  | 19 => .array .int
  | 20 => .int
  | 21 => .int
  | 22 => .int
  | _ => .int
abbrev wsX120 : List Cond := u_ws RX12 TX12 24
theorem nmX12 : ∀ a, a < 24 → ∀ b, b < 24 → a ≠ b → (TX12 a).2.1 ≠ (TX12 b).2.1 := by decide +kernel
theorem tyX12_ok : ∀ k, k < 24 → parseFieldDescriptor (TX12 k).2.2.1 = some (tyX12 k) := by decide +kernel
abbrev cX12_init : ByteArray := prog_14_method_1_code
def yX12_init : MethodName := ⟨RX12, "<init>", "()V"⟩
abbrev cX12_in : ByteArray := prog_14_method_3_code
def yX12_in : MethodName := ⟨RX12, "in", "(III)Z"⟩
abbrev cX12_within : ByteArray := prog_14_method_4_code
def yX12_within : MethodName := ⟨RX12, "within", "(III)I"⟩
abbrev cX12_isWay : ByteArray := prog_14_method_5_code
def yX12_isWay : MethodName := ⟨RX12, "isWay", "(I)Z"⟩
abbrev cX12_feed : ByteArray := prog_14_method_6_code
def yX12_feed : MethodName := ⟨RX12, "feed", "(I)I"⟩
abbrev cX12_here : ByteArray := prog_14_method_7_code
def yX12_here : MethodName := ⟨RX12, "here", "()I"⟩
abbrev cX12_must : ByteArray := prog_14_method_8_code
def yX12_must : MethodName := ⟨RX12, "must", "(I)V"⟩
abbrev cX12_spells : ByteArray := prog_14_method_9_code
def yX12_spells : MethodName := ⟨RX12, "spells", "(Ljava/lang/String;)V"⟩
abbrev cX12_figures : ByteArray := prog_14_method_10_code
def yX12_figures : MethodName := ⟨RX12, "figures", "()I"⟩
abbrev cX12_among : ByteArray := prog_14_method_11_code
def yX12_among : MethodName := ⟨RX12, "among", "(Ljava/lang/String;)I"⟩
abbrev cX12_emits : ByteArray := prog_14_method_12_code
def yX12_emits : MethodName := ⟨RX12, "emits", "(I)V"⟩
abbrev cX12_factor : ByteArray := prog_14_method_13_code
def yX12_factor : MethodName := ⟨RX12, "factor", "()V"⟩
abbrev cX12_every : ByteArray := prog_14_method_14_code
def yX12_every : MethodName := ⟨RX12, "every", "()V"⟩
abbrev cX12_some : ByteArray := prog_14_method_15_code
def yX12_some : MethodName := ⟨RX12, "some", "()V"⟩
abbrev cX12_tellsHere : ByteArray := prog_14_method_16_code
def yX12_tellsHere : MethodName := ⟨RX12, "tellsHere", "(ILjava/lang/String;)V"⟩
abbrev cX12_clauseHere : ByteArray := prog_14_method_17_code
def yX12_clauseHere : MethodName := ⟨RX12, "clauseHere", "()V"⟩
abbrev cX12_school : ByteArray := prog_14_method_18_code
def yX12_school : MethodName := ⟨RX12, "school", "()I"⟩
abbrev cX12_tellsOf : ByteArray := prog_14_method_19_code
def yX12_tellsOf : MethodName := ⟨RX12, "tellsOf", "(II)I"⟩
abbrev cX12_wantNow : ByteArray := prog_14_method_20_code
def yX12_wantNow : MethodName := ⟨RX12, "wantNow", "()I"⟩
abbrev cX12_lookNow : ByteArray := prog_14_method_21_code
def yX12_lookNow : MethodName := ⟨RX12, "lookNow", "()I"⟩
abbrev cX12_doesCount : ByteArray := prog_14_method_22_code
def yX12_doesCount : MethodName := ⟨RX12, "doesCount", "()Z"⟩
abbrev cX12_wayAt : ByteArray := prog_14_method_23_code
def yX12_wayAt : MethodName := ⟨RX12, "wayAt", "(I)I"⟩
abbrev cX12_signAt : ByteArray := prog_14_method_24_code
def yX12_signAt : MethodName := ⟨RX12, "signAt", "(I)I"⟩
abbrev cX12_way : ByteArray := prog_14_method_25_code
def yX12_way : MethodName := ⟨RX12, "way", "(III)I"⟩
abbrev cX12_twins : ByteArray := prog_14_method_26_code
def yX12_twins : MethodName := ⟨RX12, "twins", "(II)I"⟩
abbrev cX12_columns : ByteArray := prog_14_method_27_code
def yX12_columns : MethodName := ⟨RX12, "columns", "(II)I"⟩
abbrev cX12_byHand : ByteArray := prog_14_method_28_code
def yX12_byHand : MethodName := ⟨RX12, "byHand", "(II)I"⟩
abbrev cX12_secondsOf : ByteArray := prog_14_method_29_code
def yX12_secondsOf : MethodName := ⟨RX12, "secondsOf", "(II)I"⟩
abbrev cX12_penceOf : ByteArray := prog_14_method_30_code
def yX12_penceOf : MethodName := ⟨RX12, "penceOf", "(II)I"⟩
abbrev cX12_of : ByteArray := prog_14_method_31_code
def yX12_of : MethodName := ⟨RX12, "of", "(II)I"⟩
abbrev cX12_row : ByteArray := prog_14_method_32_code
def yX12_row : MethodName := ⟨RX12, "row", "(III)I"⟩
abbrev cX12_write : ByteArray := prog_14_method_33_code
def yX12_write : MethodName := ⟨RX12, "write", "(II)I"⟩
abbrev cX12_tear : ByteArray := prog_14_method_34_code
def yX12_tear : MethodName := ⟨RX12, "tear", "()I"⟩
abbrev cX12_line : ByteArray := prog_14_method_35_code
def yX12_line : MethodName := ⟨RX12, "line", "(II)I"⟩
abbrev cX12_missing : ByteArray := prog_14_method_36_code
def yX12_missing : MethodName := ⟨RX12, "missing", "()I"⟩
abbrev cX12_isPlace : ByteArray := prog_14_method_37_code
def yX12_isPlace : MethodName := ⟨RX12, "isPlace", "(I)Z"⟩
abbrev cX12_looksForPlaces : ByteArray := prog_14_method_38_code
def yX12_looksForPlaces : MethodName := ⟨RX12, "looksForPlaces", "()V"⟩
abbrev cX12_told : ByteArray := prog_14_method_39_code
def yX12_told : MethodName := ⟨RX12, "told", "(I)I"⟩
abbrev cX12_cost : ByteArray := prog_14_method_40_code
def yX12_cost : MethodName := ⟨RX12, "cost", "(III)I"⟩
abbrev cX12_looks : ByteArray := prog_14_method_41_code
def yX12_looks : MethodName := ⟨RX12, "looks", "(I)I"⟩
abbrev cX12_lowest : ByteArray := prog_14_method_42_code
def yX12_lowest : MethodName := ⟨RX12, "lowest", "(JJI)J"⟩
abbrev cX12_isShort : ByteArray := prog_14_method_43_code
def yX12_isShort : MethodName := ⟨RX12, "isShort", "()Z"⟩
abbrev cX12_allWays : ByteArray := prog_14_method_44_code
def yX12_allWays : MethodName := ⟨RX12, "allWays", "()J"⟩
abbrev cX12_safeWays : ByteArray := prog_14_method_45_code
def yX12_safeWays : MethodName := ⟨RX12, "safeWays", "()J"⟩
abbrev cX12_safe : ByteArray := prog_14_method_46_code
def yX12_safe : MethodName := ⟨RX12, "safe", "(I)J"⟩
abbrev cX12_again : ByteArray := prog_14_method_47_code
def yX12_again : MethodName := ⟨RX12, "again", "(I)J"⟩
abbrev cX12_twice : ByteArray := prog_14_method_48_code
def yX12_twice : MethodName := ⟨RX12, "twice", "(II)J"⟩
abbrev cX12_quick : ByteArray := prog_14_method_49_code
def yX12_quick : MethodName := ⟨RX12, "quick", "(III)I"⟩
abbrev cX12_triesChange : ByteArray := prog_14_method_50_code
def yX12_triesChange : MethodName := ⟨RX12, "triesChange", "(IIIII)V"⟩
abbrev cX12_change : ByteArray := prog_14_method_51_code
def yX12_change : MethodName := ⟨RX12, "change", "(III)I"⟩
abbrev cX12_rests : ByteArray := prog_14_method_52_code
def yX12_rests : MethodName := ⟨RX12, "rests", "(IIII)I"⟩
abbrev cX12_mend : ByteArray := prog_14_method_53_code
def yX12_mend : MethodName := ⟨RX12, "mend", "(I)I"⟩
abbrev cX12_where : ByteArray := prog_14_method_54_code
def yX12_where : MethodName := ⟨RX12, "where", "(I)I"⟩
abbrev cX12_left : ByteArray := prog_14_method_55_code
def yX12_left : MethodName := ⟨RX12, "left", "()I"⟩
abbrev cX12_longest : ByteArray := prog_14_method_56_code
def yX12_longest : MethodName := ⟨RX12, "longest", "(I)I"⟩
abbrev cX12_show : ByteArray := prog_14_method_57_code
def yX12_show : MethodName := ⟨RX12, "show", "(I)I"⟩
abbrev cX12_wouldShow : ByteArray := prog_14_method_58_code
def yX12_wouldShow : MethodName := ⟨RX12, "wouldShow", "(II)Z"⟩
abbrev cX12_whose : ByteArray := prog_14_method_59_code
def yX12_whose : MethodName := ⟨RX12, "whose", "()I"⟩
abbrev cX12_wanted : ByteArray := prog_14_method_60_code
def yX12_wanted : MethodName := ⟨RX12, "wanted", "(I)I"⟩
abbrev cX12_stockOf : ByteArray := prog_14_method_61_code
def yX12_stockOf : MethodName := ⟨RX12, "stockOf", "(II)I"⟩
abbrev cX12_stock : ByteArray := prog_14_method_62_code
def yX12_stock : MethodName := ⟨RX12, "stock", "(II)I"⟩
abbrev cX12_mean : ByteArray := prog_14_method_63_code
def yX12_mean : MethodName := ⟨RX12, "mean", "(III)J"⟩
abbrev cX12_isPaid : ByteArray := prog_14_method_64_code
def yX12_isPaid : MethodName := ⟨RX12, "isPaid", "(I)Z"⟩
abbrev cX12_table : ByteArray := prog_14_method_65_code
def yX12_table : MethodName := ⟨RX12, "table", "(IIIII)J"⟩
abbrev cX12_book : ByteArray := prog_14_method_66_code
def yX12_book : MethodName := ⟨RX12, "book", "(II)I"⟩
abbrev cX12_looked : ByteArray := prog_14_method_67_code
def yX12_looked : MethodName := ⟨RX12, "looked", "()I"⟩
abbrev cX12_ranBody : ByteArray := prog_14_method_68_code
def yX12_ranBody : MethodName := ⟨RX12, "ranBody", "(I)V"⟩
abbrev cX12_isUnder : ByteArray := prog_14_method_69_code
def yX12_isUnder : MethodName := ⟨RX12, "isUnder", "(II)Z"⟩
abbrev cX12_plainWrites : ByteArray := prog_14_method_70_code
def yX12_plainWrites : MethodName := ⟨RX12, "plainWrites", "(I)I"⟩
abbrev cX12_writesActs : ByteArray := prog_14_method_71_code
def yX12_writesActs : MethodName := ⟨RX12, "writesActs", "(I)I"⟩
abbrev cX12_plainShows : ByteArray := prog_14_method_72_code
def yX12_plainShows : MethodName := ⟨RX12, "plainShows", "(I)I"⟩
abbrev cX12_showsActs : ByteArray := prog_14_method_73_code
def yX12_showsActs : MethodName := ⟨RX12, "showsActs", "(I)I"⟩
abbrev cX12_plainTells : ByteArray := prog_14_method_74_code
def yX12_plainTells : MethodName := ⟨RX12, "plainTells", "(I)I"⟩
abbrev cX12_tellsActs : ByteArray := prog_14_method_75_code
def yX12_tellsActs : MethodName := ⟨RX12, "tellsActs", "(I)I"⟩
abbrev cX12_act : ByteArray := prog_14_method_76_code
def yX12_act : MethodName := ⟨RX12, "act", "(III)I"⟩
abbrev cX12_trace : ByteArray := prog_14_method_77_code
def yX12_trace : MethodName := ⟨RX12, "trace", "(I)I"⟩
abbrev cX12_as : ByteArray := prog_14_method_78_code
def yX12_as : MethodName := ⟨RX12, "as", "(II)I"⟩
abbrev cX12_image : ByteArray := prog_14_method_79_code
def yX12_image : MethodName := ⟨RX12, "image", "()I"⟩
abbrev cX12_undo : ByteArray := prog_14_method_80_code
def yX12_undo : MethodName := ⟨RX12, "undo", "()I"⟩
abbrev cX12_count : ByteArray := prog_14_method_81_code
def yX12_count : MethodName := ⟨RX12, "count", "(I)I"⟩
def RJ11 : String := "java/lang/Character"
def TJ11 : u_T := fun k => match k with
  | _ => ("", "", "", false)
def tyJ11 : Nat → FieldType := fun k => match k with
  | _ => .int
abbrev wsJ110 : List Cond := u_ws RJ11 TJ11 0
theorem nmJ11 : ∀ a, a < 0 → ∀ b, b < 0 → a ≠ b → (TJ11 a).2.1 ≠ (TJ11 b).2.1 := by decide +kernel
theorem tyJ11_ok : ∀ k, k < 0 → parseFieldDescriptor (TJ11 k).2.2.1 = some (tyJ11 k) := by decide +kernel
abbrev cJ11_isValidCodePoint_9a6ad : ByteArray := prog_15_method_11_code
def yJ11_isValidCodePoint_9a6ad : MethodName := ⟨RJ11, "isValidCodePoint", "(I)Z"⟩
abbrev cJ11_highSurrogate_5068e : ByteArray := prog_15_method_28_code
def yJ11_highSurrogate_5068e : MethodName := ⟨RJ11, "highSurrogate", "(I)C"⟩
abbrev cJ11_lowSurrogate_5068e : ByteArray := prog_15_method_29_code
def yJ11_lowSurrogate_5068e : MethodName := ⟨RJ11, "lowSurrogate", "(I)C"⟩
def RJx8e188 : String := "java/lang/Cloneable"
def TJx8e188 : u_T := fun k => match k with
  | _ => ("", "", "", false)
def tyJx8e188 : Nat → FieldType := fun k => match k with
  | _ => .int
abbrev wsJx8e1880 : List Cond := u_ws RJx8e188 TJx8e188 0
theorem nmJx8e188 : ∀ a, a < 0 → ∀ b, b < 0 → a ≠ b → (TJx8e188 a).2.1 ≠ (TJx8e188 b).2.1 := by decide +kernel
theorem tyJx8e188_ok : ∀ k, k < 0 → parseFieldDescriptor (TJx8e188 k).2.2.1 = some (tyJx8e188 k) := by decide +kernel
def RJ9 : String := "java/lang/Math"
def TJ9 : u_T := fun k => match k with
  | _ => ("", "", "", false)
def tyJ9 : Nat → FieldType := fun k => match k with
  | _ => .int
abbrev wsJ90 : List Cond := u_ws RJ9 TJ9 0
theorem nmJ9 : ∀ a, a < 0 → ∀ b, b < 0 → a ≠ b → (TJ9 a).2.1 ≠ (TJ9 b).2.1 := by decide +kernel
theorem tyJ9_ok : ∀ k, k < 0 → parseFieldDescriptor (TJ9 k).2.2.1 = some (tyJ9 k) := by decide +kernel
abbrev cJ9_abs_067f4 : ByteArray := prog_17_method_61_code
def yJ9_abs_067f4 : MethodName := ⟨RJ9, "abs", "(J)J"⟩
abbrev cJ9_max_7cf53 : ByteArray := prog_17_method_65_code
def yJ9_max_7cf53 : MethodName := ⟨RJ9, "max", "(II)I"⟩
abbrev cJ9_min_7cf53 : ByteArray := prog_17_method_69_code
def yJ9_min_7cf53 : MethodName := ⟨RJ9, "min", "(II)I"⟩
def RJ0 : String := "java/lang/String"
def TJ0 : u_T := fun k => match k with
  | _ => ("", "", "", false)
def tyJ0 : Nat → FieldType := fun k => match k with
  | _ => .int
abbrev wsJ00 : List Cond := u_ws RJ0 TJ0 0
theorem nmJ0 : ∀ a, a < 0 → ∀ b, b < 0 → a ≠ b → (TJ0 a).2.1 ≠ (TJ0 b).2.1 := by decide +kernel
theorem tyJ0_ok : ∀ k, k < 0 → parseFieldDescriptor (TJ0 k).2.2.1 = some (tyJ0 k) := by decide +kernel
abbrev cJ0_length_8abf5 : ByteArray := prog_18_method_54_code
def yJ0_length_8abf5 : MethodName := ⟨RJ0, "length", "()I"⟩
abbrev cJ0_charAt_5068e : ByteArray := prog_18_method_56_code
def yJ0_charAt_5068e : MethodName := ⟨RJ0, "charAt", "(I)C"⟩
abbrev cJ0_indexOf_0f7a4 : ByteArray := prog_18_method_79_code
def yJ0_indexOf_0f7a4 : MethodName := ⟨RJ0, "indexOf", "(I)I"⟩
abbrev cJ0_indexOf_7cf53 : ByteArray := prog_18_method_80_code
def yJ0_indexOf_7cf53 : MethodName := ⟨RJ0, "indexOf", "(II)I"⟩
abbrev cJ0_coder_7d493 : ByteArray := prog_18_method_152_code
def yJ0_coder_7d493 : MethodName := ⟨RJ0, "coder", "()B"⟩
abbrev cJ0_isLatin1_aae02 : ByteArray := prog_18_method_154_code
def yJ0_isLatin1_aae02 : MethodName := ⟨RJ0, "isLatin1", "()Z"⟩
abbrev cJ0_checkIndex_df160 : ByteArray := prog_18_method_155_code
def yJ0_checkIndex_df160 : MethodName := ⟨RJ0, "checkIndex", "(II)V"⟩
abbrev cJ0_checkBoundsBeginEnd_23922 : ByteArray := prog_18_method_158_code
def yJ0_checkBoundsBeginEnd_23922 : MethodName := ⟨RJ0, "checkBoundsBeginEnd", "(III)V"⟩
def RJ1 : String := "java/lang/StringLatin1"
def TJ1 : u_T := fun k => match k with
  | _ => ("", "", "", false)
def tyJ1 : Nat → FieldType := fun k => match k with
  | _ => .int
abbrev wsJ10 : List Cond := u_ws RJ1 TJ1 0
theorem nmJ1 : ∀ a, a < 0 → ∀ b, b < 0 → a ≠ b → (TJ1 a).2.1 ≠ (TJ1 b).2.1 := by decide +kernel
theorem tyJ1_ok : ∀ k, k < 0 → parseFieldDescriptor (TJ1 k).2.2.1 = some (tyJ1 k) := by decide +kernel
abbrev cJ1_charAt_3b067 : ByteArray := prog_19_method_2_code
def yJ1_charAt_3b067 : MethodName := ⟨RJ1, "charAt", "([BI)C"⟩
abbrev cJ1_canEncode_9a6ad : ByteArray := prog_19_method_4_code
def yJ1_canEncode_9a6ad : MethodName := ⟨RJ1, "canEncode", "(I)Z"⟩
abbrev cJ1_indexOf_4cfef : ByteArray := prog_19_method_22_code
def yJ1_indexOf_4cfef : MethodName := ⟨RJ1, "indexOf", "([BIII)I"⟩
abbrev cJ1_indexOfChar_4cfef : ByteArray := prog_19_method_23_code
def yJ1_indexOfChar_4cfef : MethodName := ⟨RJ1, "indexOfChar", "([BIII)I"⟩
def RJ2 : String := "java/lang/StringUTF16"
def TJ2 : u_T := fun k => match k with
  | _ => ("", "", "", false)
def tyJ2 : Nat → FieldType := fun k => match k with
  | _ => .int
abbrev wsJ20 : List Cond := u_ws RJ2 TJ2 0
theorem nmJ2 : ∀ a, a < 0 → ∀ b, b < 0 → a ≠ b → (TJ2 a).2.1 ≠ (TJ2 b).2.1 := by decide +kernel
theorem tyJ2_ok : ∀ k, k < 0 → parseFieldDescriptor (TJ2 k).2.2.1 = some (tyJ2 k) := by decide +kernel
abbrev cJ2_getChar_3b067 : ByteArray := prog_20_method_5_code
def yJ2_getChar_3b067 : MethodName := ⟨RJ2, "getChar", "([BI)C"⟩
abbrev cJ2_length_9d52b : ByteArray := prog_20_method_6_code
def yJ2_length_9d52b : MethodName := ⟨RJ2, "length", "([B)I"⟩
abbrev cJ2_indexOf_4cfef : ByteArray := prog_20_method_40_code
def yJ2_indexOf_4cfef : MethodName := ⟨RJ2, "indexOf", "([BIII)I"⟩
abbrev cJ2_indexOfChar_4cfef : ByteArray := prog_20_method_47_code
def yJ2_indexOfChar_4cfef : MethodName := ⟨RJ2, "indexOfChar", "([BIII)I"⟩
abbrev cJ2_indexOfCharUnsafe_4cfef : ByteArray := prog_20_method_48_code
def yJ2_indexOfCharUnsafe_4cfef : MethodName := ⟨RJ2, "indexOfCharUnsafe", "([BIII)I"⟩
abbrev cJ2_indexOfSupplementary_4cfef : ByteArray := prog_20_method_49_code
def yJ2_indexOfSupplementary_4cfef : MethodName := ⟨RJ2, "indexOfSupplementary", "([BIII)I"⟩
abbrev cJ2_charAt_3b067 : ByteArray := prog_20_method_83_code
def yJ2_charAt_3b067 : MethodName := ⟨RJ2, "charAt", "([BI)C"⟩
abbrev cJ2_checkIndex_2214a : ByteArray := prog_20_method_91_code
def yJ2_checkIndex_2214a : MethodName := ⟨RJ2, "checkIndex", "(I[B)V"⟩
abbrev cJ2_checkBoundsBeginEnd_d044e : ByteArray := prog_20_method_93_code
def yJ2_checkBoundsBeginEnd_d044e : MethodName := ⟨RJ2, "checkBoundsBeginEnd", "(II[B)V"⟩
def RJ3 : String := "jdk/internal/util/Preconditions"
def TJ3 : u_T := fun k => match k with
  | _ => ("", "", "", false)
def tyJ3 : Nat → FieldType := fun k => match k with
  | _ => .int
abbrev wsJ30 : List Cond := u_ws RJ3 TJ3 0
theorem nmJ3 : ∀ a, a < 0 → ∀ b, b < 0 → a ≠ b → (TJ3 a).2.1 ≠ (TJ3 b).2.1 := by decide +kernel
theorem tyJ3_ok : ∀ k, k < 0 → parseFieldDescriptor (TJ3 k).2.2.1 = some (tyJ3 k) := by decide +kernel
abbrev cJ3_checkIndex_8e157 : ByteArray := prog_21_method_11_code
def yJ3_checkIndex_8e157 : MethodName := ⟨RJ3, "checkIndex", "(IILjava/util/function/BiFunction;)I"⟩
abbrev cJ3_checkFromToIndex_8c36e : ByteArray := prog_21_method_12_code
def yJ3_checkFromToIndex_8c36e : MethodName := ⟨RJ3, "checkFromToIndex", "(IIILjava/util/function/BiFunction;)I"⟩
def RL : String := "TwoPensLaw"
abbrev cL_law : ByteArray := code
def yL_law : MethodName := ⟨RL, "law", "([I)Z"⟩
def wsL_law_r1 : List Cond := [Cond.classLink RL 7 RX11, Cond.instantiable RX11 4, Cond.initialized RX11, Cond.classLink RL 10 RX12, Cond.instantiable RX12 24, Cond.initialized RX12, Cond.methodLink RL 9 yX11_init, Cond.instanceMethod yX11_init, Cond.code yX11_init cX11_init 1 none, Cond.methodLink RX11 3 objectInit, Cond.instanceMethod objectInit, Cond.code objectInit ⟨#[0xb1]⟩ 1 none, Cond.classLink RX11 9 RX2, Cond.instantiable RX2 13, Cond.initialized RX2, Cond.fieldLink RX11 12 "TwoPens" "desk" "LTwoPens$Desk;", Cond.fieldLink RX11 18 "TwoPens" "kept" "LTwoPens$Desk;", Cond.classLink RX11 21 RX8, Cond.instantiable RX8 2, Cond.initialized RX8, Cond.fieldLink RX11 24 "TwoPens" "trace" "LTwoPens$Trace;", Cond.instanceMethod yX2_init, Cond.code yX2_init cX2_init 1 none, Cond.methodLink RX2 3 objectInit]
def wsL_law_r2 : List Cond := [Cond.classLink RX2 9 RX4, Cond.fieldLink RX2 11 "TwoPens$Desk" "ways" "[LTwoPens$Line;", Cond.classLink RX2 17 RX6, Cond.instantiable RX6 5, Cond.initialized RX6, Cond.fieldLink RX2 20 "TwoPens$Desk" "holding" "LTwoPens$School;", Cond.classLink RX2 24 RX5, Cond.instantiable RX5 2, Cond.initialized RX5, Cond.fieldLink RX2 29 "TwoPens$Desk" "tape" "LTwoPens$Numbers;", Cond.fieldLink RX2 33 "TwoPens$Desk" "sheet" "LTwoPens$Numbers;", Cond.fieldLink RX2 36 "TwoPens$Desk" "places" "LTwoPens$Numbers;", Cond.fieldLink RX2 39 "TwoPens$Desk" "shown" "LTwoPens$Numbers;", Cond.fieldLink RX2 42 "TwoPens$Desk" "days" "LTwoPens$Numbers;", Cond.fieldLink RX2 45 "TwoPens$Desk" "bookPlaces" "LTwoPens$Numbers;", Cond.fieldLink RX2 48 "TwoPens$Desk" "bookWays" "LTwoPens$Numbers;", Cond.instanceMethod yX6_init, Cond.code yX6_init cX6_init 1 none, Cond.methodLink RX6 3 objectInit, Cond.fieldLink RX6 9 "TwoPens$School" "want" "I", Cond.fieldLink RX6 15 "TwoPens$School" "look" "I", Cond.arrayClass .int, Cond.fieldLink RX6 18 "TwoPens$School" "codes" "[I", Cond.methodLink RX2 26 yX5_init]
def wsL_law_r3 : List Cond := [Cond.instanceMethod yX5_init, Cond.code yX5_init cX5_init 2 none, Cond.methodLink RX5 1 objectInit, Cond.methodLink RX5 7 Lib.Math.max.name, Cond.static Lib.Math.max.name, Cond.initialized "java/lang/Math", Cond.code Lib.Math.max.name Lib.Math.max.code 2 (some .int), Cond.fieldLink RX5 13 "TwoPens$Numbers" "items" "[I", Cond.instanceMethod yX8_init, Cond.code yX8_init cX8_init 1 none, Cond.methodLink RX8 3 objectInit, Cond.fieldLink RX8 9 "TwoPens$Trace" "bodies" "[I", Cond.methodLink RL 12 yX12_init, Cond.instanceMethod yX12_init, Cond.code yX12_init cX12_init 1 none, Cond.methodLink RX12 3 objectInit, Cond.fieldLink RX12 9 "TwoPensModel" "s" "[I", Cond.fieldLink RX12 15 "TwoPensModel" "image" "[I", Cond.fieldLink RX12 18 "TwoPensModel" "by" "[I", Cond.arrayClass .boolean, Cond.fieldLink RX12 21 "TwoPensModel" "truths" "[Z", Cond.fieldLink RX12 25 "TwoPensModel" "places" "[I", Cond.fieldLink RX12 28 "TwoPensModel" "signs" "[I", Cond.fieldLink RX12 31 "TwoPensModel" "bodies" "[I"]
def wsL_law_r4 : List Cond := [Cond.methodLink RL 13 yX11_feed, Cond.instanceMethod yX11_feed, Cond.selects RX11 yX11_feed yX11_feed, Cond.code yX11_feed cX11_feed 2 (some .int), Cond.fieldLink RX11 28 "TwoPens$Desk" "tape" "LTwoPens$Numbers;", Cond.methodLink RX11 32 yX5_add, Cond.instanceMethod yX5_add, Cond.selects RX5 yX5_add yX5_add, Cond.code yX5_add cX5_add 2 (some .boolean), Cond.fieldLink RX5 19 "TwoPens$Numbers" "size" "I", Cond.methodLink RX11 38 yX5_size, Cond.instanceMethod yX5_size, Cond.selects RX5 yX5_size yX5_size, Cond.code yX5_size cX5_size 1 (some .int), Cond.methodLink RL 17 yX12_feed, Cond.instanceMethod yX12_feed, Cond.selects RX12 yX12_feed yX12_feed, Cond.code yX12_feed cX12_feed 2 (some .int), Cond.methodLink RX12 38 yX12_in, Cond.static yX12_in, Cond.code yX12_in cX12_in 3 (some .boolean), Cond.methodLink RL 18 yX11_school, Cond.instanceMethod yX11_school, Cond.selects RX11 yX11_school yX11_school]
def wsL_law_r5 : List Cond := [Cond.code yX11_school cX11_school 3 (some .int), Cond.fieldLink RX11 42 "TwoPens$Desk" "schools" "I", Cond.classLink RX11 46 RX6, Cond.fieldLink RX11 56 "TwoPens$Desk" "holding" "LTwoPens$School;", Cond.methodLink RX11 49 yX6_read, Cond.instanceMethod yX6_read, Cond.selects RX6 yX6_read yX6_read, Cond.code yX6_read cX6_read 4 (some .int), Cond.methodLink RX6 22 yX6_clause, Cond.instanceMethod yX6_clause, Cond.selects RX6 yX6_clause yX6_clause, Cond.code yX6_clause cX6_clause 3 (some .int), Cond.methodLink RX6 40 yX5_get, Cond.instanceMethod yX5_get, Cond.selects RX5 yX5_get yX5_get, Cond.code yX5_get cX5_get 2 (some .int), Cond.methodLink RX6 45 yX6_setting, Cond.instanceMethod yX6_setting, Cond.selects RX6 yX6_setting yX6_setting, Cond.code yX6_setting cX6_setting 7 (some .int), Cond.methodLink RX6 65 Lib.Math.min.name, Cond.static Lib.Math.min.name, Cond.code Lib.Math.min.name Lib.Math.min.code 2 (some .int), Cond.methodLink RX6 71 Lib.Math.max.name]
def wsL_law_r6 : List Cond := [Cond.fieldLink RX6 74 "TwoPens$School" "count" "I", Cond.methodLink RX6 56 yX6_words, Cond.static yX6_words, Cond.code yX6_words cX6_words 5 (some .int), Cond.methodLink RX6 86 yJ0_length_8abf5, Cond.instanceMethod yJ0_length_8abf5, Cond.selects RJ0 yJ0_length_8abf5 yJ0_length_8abf5, Cond.initialized RJ0, Cond.code yJ0_length_8abf5 cJ0_length_8abf5 1 (some .int), Cond.fieldLink RJ0 9 "java/lang/String" "value" "[B", Cond.methodLink RJ0 335 yJ0_coder_7d493, Cond.instanceMethod yJ0_coder_7d493, Cond.selects RJ0 yJ0_coder_7d493 yJ0_coder_7d493, Cond.code yJ0_coder_7d493 cJ0_coder_7d493 1 (some .byte), Cond.fieldLink RJ0 38 "java/lang/String" "COMPACT_STRINGS" "Z", Cond.fieldLink RJ0 15 "java/lang/String" "coder" "B", Cond.methodLink RX6 91 yJ0_charAt_5068e, Cond.instanceMethod yJ0_charAt_5068e, Cond.selects RJ0 yJ0_charAt_5068e yJ0_charAt_5068e, Cond.code yJ0_charAt_5068e cJ0_charAt_5068e 2 (some .char), Cond.methodLink RJ0 492 yJ0_isLatin1_aae02, Cond.instanceMethod yJ0_isLatin1_aae02, Cond.selects RJ0 yJ0_isLatin1_aae02 yJ0_isLatin1_aae02, Cond.code yJ0_isLatin1_aae02 cJ0_isLatin1_aae02 1 (some .boolean)]
def wsL_law_r7 : List Cond := [Cond.methodLink RJ0 495 yJ1_charAt_3b067, Cond.static yJ1_charAt_3b067, Cond.initialized RJ1, Cond.code yJ1_charAt_3b067 cJ1_charAt_3b067 2 (some .char), Cond.methodLink RJ1 9 yJ0_checkIndex_df160, Cond.static yJ0_checkIndex_df160, Cond.code yJ0_checkIndex_df160 cJ0_checkIndex_df160 2 none, Cond.fieldLink RJ0 1053 "jdk/internal/util/Preconditions" "SIOOBE_FORMATTER" "Ljava/util/function/BiFunction;", Cond.methodLink RJ0 1059 yJ3_checkIndex_8e157, Cond.static yJ3_checkIndex_8e157, Cond.initialized RJ3, Cond.code yJ3_checkIndex_8e157 cJ3_checkIndex_8e157 3 (some .int), Cond.methodLink RJ0 498 yJ2_charAt_3b067, Cond.static yJ2_charAt_3b067, Cond.initialized RJ2, Cond.code yJ2_charAt_3b067 cJ2_charAt_3b067 2 (some .char), Cond.methodLink RJ2 67 yJ2_checkIndex_2214a, Cond.static yJ2_checkIndex_2214a, Cond.code yJ2_checkIndex_2214a cJ2_checkIndex_2214a 2 none, Cond.methodLink RJ2 48 yJ2_length_9d52b, Cond.static yJ2_length_9d52b, Cond.code yJ2_length_9d52b cJ2_length_9d52b 1 (some .int), Cond.methodLink RJ2 414 yJ0_checkIndex_df160, Cond.methodLink RJ2 71 yJ2_getChar_3b067]
def wsL_law_r8 : List Cond := [Cond.static yJ2_getChar_3b067, Cond.code yJ2_getChar_3b067 cJ2_getChar_3b067 2 (some .char), Cond.fieldLink RJ2 44 "java/lang/StringUTF16" "$assertionsDisabled" "Z", Cond.fieldLink RJ2 59 "java/lang/StringUTF16" "HI_BYTE_SHIFT" "I", Cond.fieldLink RJ2 63 "java/lang/StringUTF16" "LO_BYTE_SHIFT" "I", Cond.methodLink RX6 36 yX6_expect, Cond.static yX6_expect, Cond.code yX6_expect cX6_expect 3 (some .int), Cond.methodLink RX6 32 yX6_stuck, Cond.static yX6_stuck, Cond.code yX6_stuck cX6_stuck 1 (some .int), Cond.methodLink RX6 59 yX6_digits, Cond.static yX6_digits, Cond.code yX6_digits cX6_digits 2 (some .int), Cond.methodLink RX6 95 yX6_isFigure, Cond.static yX6_isFigure, Cond.code yX6_isFigure cX6_isFigure 1 (some .boolean), Cond.methodLink RX6 62 yX6_valueOf, Cond.static yX6_valueOf, Cond.code yX6_valueOf cX6_valueOf 5 (some .int), Cond.methodLink RX6 53 yX6_sees, Cond.instanceMethod yX6_sees, Cond.selects RX6 yX6_sees yX6_sees, Cond.code yX6_sees cX6_sees 6 (some .int)]
def wsL_law_r9 : List Cond := [Cond.methodLink RX6 79 yX6_either, Cond.instanceMethod yX6_either, Cond.selects RX6 yX6_either yX6_either, Cond.code yX6_either cX6_either 6 (some .int), Cond.methodLink RX6 99 yX6_both, Cond.instanceMethod yX6_both, Cond.selects RX6 yX6_both yX6_both, Cond.methodLink RX6 82 yX6_put, Cond.instanceMethod yX6_put, Cond.selects RX6 yX6_put yX6_put, Cond.code yX6_put cX6_put 2 none, Cond.fieldLink RX6 119 "TwoPens$School" "size" "I", Cond.code yX6_both cX6_both 6 (some .int), Cond.methodLink RX6 102 yX6_single, Cond.instanceMethod yX6_single, Cond.selects RX6 yX6_single yX6_single, Cond.code yX6_single cX6_single 6 (some .int), Cond.methodLink RX6 105 yX6_test, Cond.instanceMethod yX6_test, Cond.selects RX6 yX6_test yX6_test, Cond.code yX6_test cX6_test 6 (some .int), Cond.methodLink RX6 110 yX6_placeIn, Cond.static yX6_placeIn, Cond.code yX6_placeIn cX6_placeIn 2 (some .int)]
def wsL_law_r10 : List Cond := [Cond.methodLink RX6 116 yJ0_indexOf_0f7a4, Cond.instanceMethod yJ0_indexOf_0f7a4, Cond.selects RJ0 yJ0_indexOf_0f7a4 yJ0_indexOf_0f7a4, Cond.code yJ0_indexOf_0f7a4 cJ0_indexOf_0f7a4 2 (some .int), Cond.methodLink RJ0 633 yJ0_indexOf_7cf53, Cond.instanceMethod yJ0_indexOf_7cf53, Cond.selects RJ0 yJ0_indexOf_7cf53 yJ0_indexOf_7cf53, Cond.code yJ0_indexOf_7cf53 cJ0_indexOf_7cf53 3 (some .int), Cond.methodLink RJ0 505 yJ0_length_8abf5, Cond.methodLink RJ0 637 yJ1_indexOf_4cfef, Cond.static yJ1_indexOf_4cfef, Cond.code yJ1_indexOf_4cfef cJ1_indexOf_4cfef 4 (some .int), Cond.methodLink RJ1 92 Lib.Math.max.name, Cond.methodLink RJ1 38 Lib.Math.min.name, Cond.methodLink RJ1 88 yJ1_canEncode_9a6ad, Cond.static yJ1_canEncode_9a6ad, Cond.code yJ1_canEncode_9a6ad cJ1_canEncode_9a6ad 1 (some .boolean), Cond.methodLink RJ1 95 yJ1_indexOfChar_4cfef, Cond.static yJ1_indexOfChar_4cfef, Cond.code yJ1_indexOfChar_4cfef cJ1_indexOfChar_4cfef 6 (some .int), Cond.methodLink RJ0 640 yJ2_indexOf_4cfef, Cond.static yJ2_indexOf_4cfef, Cond.code yJ2_indexOf_4cfef cJ2_indexOf_4cfef 4 (some .int), Cond.methodLink RJ2 224 Lib.Math.max.name]
def wsL_law_r11 : List Cond := [Cond.methodLink RJ2 183 Lib.Math.min.name, Cond.constant RJ2 227 (65536), Cond.methodLink RJ2 228 yJ2_indexOfChar_4cfef, Cond.static yJ2_indexOfChar_4cfef, Cond.code yJ2_indexOfChar_4cfef cJ2_indexOfChar_4cfef 4 (some .int), Cond.methodLink RJ2 96 yJ2_checkBoundsBeginEnd_d044e, Cond.static yJ2_checkBoundsBeginEnd_d044e, Cond.code yJ2_checkBoundsBeginEnd_d044e cJ2_checkBoundsBeginEnd_d044e 3 none, Cond.methodLink RJ2 241 yJ0_checkBoundsBeginEnd_23922, Cond.static yJ0_checkBoundsBeginEnd_23922, Cond.code yJ0_checkBoundsBeginEnd_23922 cJ0_checkBoundsBeginEnd_23922 3 none, Cond.methodLink RJ0 1062 yJ3_checkFromToIndex_8c36e, Cond.static yJ3_checkFromToIndex_8c36e, Cond.code yJ3_checkFromToIndex_8c36e cJ3_checkFromToIndex_8c36e 4 (some .int), Cond.methodLink RJ2 244 yJ2_indexOfCharUnsafe_4cfef, Cond.static yJ2_indexOfCharUnsafe_4cfef, Cond.code yJ2_indexOfCharUnsafe_4cfef cJ2_indexOfCharUnsafe_4cfef 5 (some .int), Cond.methodLink RJ2 232 yJ2_indexOfSupplementary_4cfef, Cond.static yJ2_indexOfSupplementary_4cfef, Cond.code yJ2_indexOfSupplementary_4cfef cJ2_indexOfSupplementary_4cfef 7 (some .int), Cond.methodLink RJ2 164 yJ11_isValidCodePoint_9a6ad, Cond.static yJ11_isValidCodePoint_9a6ad, Cond.initialized RJ11, Cond.code yJ11_isValidCodePoint_9a6ad cJ11_isValidCodePoint_9a6ad 2 (some .boolean)]
def wsL_law_r12 : List Cond := [Cond.methodLink RJ2 157 yJ11_highSurrogate_5068e, Cond.static yJ11_highSurrogate_5068e, Cond.code yJ11_highSurrogate_5068e cJ11_highSurrogate_5068e 1 (some .char), Cond.constant RJ11 110 (55232), Cond.methodLink RJ2 161 yJ11_lowSurrogate_5068e, Cond.static yJ11_lowSurrogate_5068e, Cond.code yJ11_lowSurrogate_5068e cJ11_lowSurrogate_5068e 1 (some .char), Cond.constant RJ11 76 (56320), Cond.methodLink RX6 26 yX5_size, Cond.methodLink RX11 53 yX5_clear, Cond.instanceMethod yX5_clear, Cond.selects RX5 yX5_clear yX5_clear, Cond.code yX5_clear cX5_clear 1 none, Cond.methodLink RL 22 yX12_school, Cond.instanceMethod yX12_school, Cond.selects RX12 yX12_school yX12_school, Cond.code yX12_school cX12_school 2 (some .int), Cond.fieldLink RX12 69 "TwoPensModel" "act" "I", Cond.fieldLink RX12 45 "TwoPensModel" "end" "I", Cond.fieldLink RX12 42 "TwoPensModel" "spot" "I", Cond.fieldLink RX12 48 "TwoPensModel" "isWrong" "Z", Cond.fieldLink RX12 72 "TwoPensModel" "open" "I", Cond.methodLink RX12 114 yX12_clauseHere, Cond.instanceMethod yX12_clauseHere]
def wsL_law_r13 : List Cond := [Cond.selects RX12 yX12_clauseHere yX12_clauseHere, Cond.code yX12_clauseHere cX12_clauseHere 2 none, Cond.methodLink RX12 52 yX12_here, Cond.instanceMethod yX12_here, Cond.selects RX12 yX12_here yX12_here, Cond.code yX12_here cX12_here 1 (some .int), Cond.methodLink RX12 104 yX12_tellsHere, Cond.instanceMethod yX12_tellsHere, Cond.selects RX12 yX12_tellsHere yX12_tellsHere, Cond.code yX12_tellsHere cX12_tellsHere 4 none, Cond.methodLink RX12 98 yX12_spells, Cond.instanceMethod yX12_spells, Cond.selects RX12 yX12_spells yX12_spells, Cond.code yX12_spells cX12_spells 3 none, Cond.methodLink RX12 56 yJ0_length_8abf5, Cond.methodLink RX12 61 yJ0_charAt_5068e, Cond.methodLink RX12 65 yX12_must, Cond.instanceMethod yX12_must, Cond.selects RX12 yX12_must yX12_must, Cond.code yX12_must cX12_must 2 none, Cond.methodLink RX12 92 yX12_figures, Cond.instanceMethod yX12_figures, Cond.selects RX12 yX12_figures yX12_figures, Cond.code yX12_figures cX12_figures 3 (some .int)]
def wsL_law_r14 : List Cond := [Cond.methodLink RX12 81 yX12_some, Cond.instanceMethod yX12_some, Cond.selects RX12 yX12_some yX12_some, Cond.code yX12_some cX12_some 1 none, Cond.methodLink RX12 95 yX12_every, Cond.instanceMethod yX12_every, Cond.selects RX12 yX12_every yX12_every, Cond.methodLink RX12 78 yX12_emits, Cond.instanceMethod yX12_emits, Cond.selects RX12 yX12_emits yX12_emits, Cond.code yX12_emits cX12_emits 2 none, Cond.code yX12_every cX12_every 1 none, Cond.methodLink RX12 75 yX12_factor, Cond.instanceMethod yX12_factor, Cond.selects RX12 yX12_factor yX12_factor, Cond.code yX12_factor cX12_factor 5 none, Cond.methodLink RX12 86 yX12_among, Cond.instanceMethod yX12_among, Cond.selects RX12 yX12_among yX12_among, Cond.code yX12_among cX12_among 3 (some .int), Cond.methodLink RL 23 yX11_way, Cond.instanceMethod yX11_way, Cond.selects RX11 yX11_way yX11_way, Cond.code yX11_way cX11_way 5 (some .int)]
def wsL_law_r15 : List Cond := [Cond.methodLink RX11 60 yX11_isDigit, Cond.static yX11_isDigit, Cond.code yX11_isDigit cX11_isDigit 1 (some .boolean), Cond.methodLink RX11 63 yX2_wayCount, Cond.instanceMethod yX2_wayCount, Cond.selects RX2 yX2_wayCount yX2_wayCount, Cond.code yX2_wayCount cX2_wayCount 1 (some .int), Cond.fieldLink RX2 51 "TwoPens$Desk" "wayCount" "I", Cond.methodLink RX11 66 yX11_made, Cond.static yX11_made, Cond.code yX11_made cX11_made 4 (some (.object "TwoPens$Line")), Cond.classLink RX11 270 RX10, Cond.instantiable RX10 4, Cond.initialized RX10, Cond.classLink RX11 275 RX0, Cond.instantiable RX0 4, Cond.initialized RX0, Cond.classLink RX11 278 RX3, Cond.instantiable RX3 4, Cond.initialized RX3, Cond.classLink RX11 281 RX9, Cond.instantiable RX9 4, Cond.initialized RX9, Cond.classLink RX11 286 RX1]
def wsL_law_r16 : List Cond := [Cond.instantiable RX1 4, Cond.initialized RX1, Cond.classLink RX11 96 RX7, Cond.instantiable RX7 5, Cond.initialized RX7, Cond.classLink RX11 79 RX4, Cond.instantiable RX4 4, Cond.initialized RX4, Cond.methodLink RX11 272 yX10_init, Cond.instanceMethod yX10_init, Cond.code yX10_init cX10_init 5 none, Cond.methodLink RX10 1 yX4_init, Cond.instanceMethod yX4_init, Cond.code yX4_init cX4_init 5 none, Cond.methodLink RX4 1 objectInit, Cond.fieldLink RX4 7 "TwoPens$Line" "kind" "I", Cond.fieldLink RX4 13 "TwoPens$Line" "number" "I", Cond.fieldLink RX4 16 "TwoPens$Line" "v" "I", Cond.fieldLink RX4 19 "TwoPens$Line" "slow" "I", Cond.methodLink RX11 277 yX0_init, Cond.instanceMethod yX0_init, Cond.code yX0_init cX0_init 5 none, Cond.methodLink RX0 1 yX4_init, Cond.methodLink RX11 280 yX3_init]
def wsL_law_r17 : List Cond := [Cond.instanceMethod yX3_init, Cond.code yX3_init cX3_init 5 none, Cond.methodLink RX3 1 yX4_init, Cond.methodLink RX11 283 yX9_init, Cond.instanceMethod yX9_init, Cond.code yX9_init cX9_init 4 none, Cond.methodLink RX9 1 yX10_init, Cond.methodLink RX11 288 yX1_init, Cond.instanceMethod yX1_init, Cond.code yX1_init cX1_init 4 none, Cond.methodLink RX1 1 yX0_init, Cond.methodLink RX11 289 yX7_init, Cond.instanceMethod yX7_init, Cond.code yX7_init cX7_init 5 none, Cond.fieldLink RX7 7 "TwoPens$Told" "row" "[I", Cond.methodLink RX7 1 yX3_init, Cond.methodLink RX11 292 yX4_init, Cond.methodLink RX11 70 yX2_addWay, Cond.instanceMethod yX2_addWay, Cond.selects RX2 yX2_addWay yX2_addWay, Cond.code yX2_addWay cX2_addWay 2 (some .boolean), Cond.methodLink RL 27 yX12_way, Cond.instanceMethod yX12_way, Cond.selects RX12 yX12_way yX12_way]
def wsL_law_r18 : List Cond := [Cond.code yX12_way cX12_way 6 (some .int), Cond.methodLink RL 28 yX11_of, Cond.instanceMethod yX11_of, Cond.selects RX11 yX11_of yX11_of, Cond.code yX11_of cX11_of 4 (some .int), Cond.fieldLink RX11 78 "TwoPens$Line" "kind" "I", Cond.fieldLink RX11 83 "TwoPens$Line" "v" "I", Cond.fieldLink RX11 86 "TwoPens$Line" "slow" "I", Cond.fieldLink RX11 89 "TwoPens$Desk" "sheet" "LTwoPens$Numbers;", Cond.methodLink RX11 74 yX2_wayOf, Cond.instanceMethod yX2_wayOf, Cond.selects RX2 yX2_wayOf yX2_wayOf, Cond.code yX2_wayOf cX2_wayOf 2 (some (.object "TwoPens$Line")), Cond.methodLink RX11 92 yX5_timesOf, Cond.instanceMethod yX5_timesOf, Cond.selects RX5 yX5_timesOf yX5_timesOf, Cond.code yX5_timesOf cX5_timesOf 4 (some .int), Cond.methodLink RX5 23 yX5_get, Cond.methodLink RL 32 yX12_of, Cond.instanceMethod yX12_of, Cond.selects RX12 yX12_of yX12_of, Cond.code yX12_of cX12_of 5 (some .int), Cond.methodLink RX12 138 yX12_isWay, Cond.instanceMethod yX12_isWay]
def wsL_law_r19 : List Cond := [Cond.selects RX12 yX12_isWay yX12_isWay, Cond.code yX12_isWay cX12_isWay 2 (some .boolean), Cond.methodLink RL 33 yX11_row, Cond.instanceMethod yX11_row, Cond.selects RX11 yX11_row yX11_row, Cond.code yX11_row cX11_row 6 (some .int), Cond.classLink RX11 96 "TwoPens$Told", Cond.methodLink RX11 98 yX7_withRow, Cond.instanceMethod yX7_withRow, Cond.selects RX7 yX7_withRow yX7_withRow, Cond.code yX7_withRow cX7_withRow 4 (some (.object "TwoPens$Told")), Cond.methodLink RX7 13 ⟨"[I", "clone", "()Ljava/lang/Object;"⟩, Cond.sameMethod "[I" "java/lang/Object" "clone" "()Ljava/lang/Object;", Cond.native ⟨"java/lang/Object", "clone", "()Ljava/lang/Object;"⟩, Cond.instanceMethod ⟨"java/lang/Object", "clone", "()Ljava/lang/Object;"⟩, Cond.selects "[I" ⟨"[I", "clone", "()Ljava/lang/Object;"⟩ ⟨"java/lang/Object", "clone", "()Ljava/lang/Object;"⟩, Cond.classLink RX7 14 "[I", Cond.classLink RX7 8 RX7, Cond.fieldLink RX7 18 "TwoPens$Told" "number" "I", Cond.sameField "TwoPens$Told" "TwoPens$Line" "number" "I", Cond.fieldLink RX7 22 "TwoPens$Told" "v" "I", Cond.sameField "TwoPens$Told" "TwoPens$Line" "v" "I", Cond.fieldLink RX7 25 "TwoPens$Told" "slow" "I", Cond.sameField "TwoPens$Told" "TwoPens$Line" "slow" "I"]
def wsL_law_r20 : List Cond := [Cond.methodLink RX7 28 yX7_init, Cond.methodLink RX11 102 yX2_putWay, Cond.instanceMethod yX2_putWay, Cond.selects RX2 yX2_putWay yX2_putWay, Cond.code yX2_putWay cX2_putWay 3 none, Cond.methodLink RX11 106 yX7_rowAt, Cond.instanceMethod yX7_rowAt, Cond.selects RX7 yX7_rowAt yX7_rowAt, Cond.code yX7_rowAt cX7_rowAt 2 (some .int), Cond.methodLink RL 36 yX12_row, Cond.instanceMethod yX12_row, Cond.selects RX12 yX12_row yX12_row, Cond.code yX12_row cX12_row 5 (some .int), Cond.methodLink RL 37 yX11_write, Cond.instanceMethod yX11_write, Cond.selects RX11 yX11_write yX11_write, Cond.code yX11_write cX11_write 5 (some .int), Cond.fieldLink RX11 112 "TwoPens$Desk" "spent" "I", Cond.fieldLink RX11 119 "TwoPens$Desk" "paid" "I", Cond.methodLink RX11 109 yX11_isLength, Cond.static yX11_isLength, Cond.code yX11_isLength cX11_isLength 1 (some .boolean), Cond.methodLink RX11 115 yX2_secondsOf, Cond.instanceMethod yX2_secondsOf]
def wsL_law_r21 : List Cond := [Cond.selects RX2 yX2_secondsOf yX2_secondsOf, Cond.code yX2_secondsOf cX2_secondsOf 4 (some .int), Cond.methodLink RX2 68 yX2_wayOf, Cond.methodLink RX2 72 ⟨"TwoPens$Line", "seconds", "(I)I"⟩, Cond.sameMethod "TwoPens$Line" "TwoPens$Line" "seconds" "(I)I", Cond.instanceMethod ⟨"TwoPens$Line", "seconds", "(I)I"⟩, Cond.selects RX0 ⟨"TwoPens$Line", "seconds", "(I)I"⟩ yX0_seconds, Cond.instanceMethod yX0_seconds, Cond.code yX0_seconds cX0_seconds 2 (some .int), Cond.fieldLink RX0 7 "TwoPens$Column" "slow" "I", Cond.sameField "TwoPens$Column" "TwoPens$Line" "slow" "I", Cond.fieldLink RX0 13 "TwoPens$Column" "v" "I", Cond.sameField "TwoPens$Column" "TwoPens$Line" "v" "I", Cond.code yX4_seconds cX4_seconds 4 (some .int), Cond.selects RX1 ⟨"TwoPens$Line", "seconds", "(I)I"⟩ yX1_seconds, Cond.instanceMethod yX1_seconds, Cond.code yX1_seconds cX1_seconds 2 (some .int), Cond.methodLink RX1 7 yX0_seconds, Cond.sameMethod "TwoPens$Column" "TwoPens$Column" "seconds" "(I)I", Cond.superclass RX1 RX0, Cond.selects RX3 ⟨"TwoPens$Line", "seconds", "(I)I"⟩ yX3_seconds, Cond.instanceMethod yX3_seconds, Cond.code yX3_seconds cX3_seconds 2 (some .int), Cond.methodLink RX2 72 yX4_seconds]
def wsL_law_r22 : List Cond := [Cond.instanceMethod yX4_seconds, Cond.selects RX4 yX4_seconds yX4_seconds, Cond.selects RX7 ⟨"TwoPens$Line", "seconds", "(I)I"⟩ yX7_seconds, Cond.instanceMethod yX7_seconds, Cond.code yX7_seconds cX7_seconds 2 (some .int), Cond.methodLink RX7 31 yX7_rowAt, Cond.selects RX9 ⟨"TwoPens$Line", "seconds", "(I)I"⟩ yX9_seconds, Cond.instanceMethod yX9_seconds, Cond.code yX9_seconds cX9_seconds 2 (some .int), Cond.fieldLink RX9 7 "TwoPens$Triple" "slow" "I", Cond.sameField "TwoPens$Triple" "TwoPens$Line" "slow" "I", Cond.fieldLink RX9 13 "TwoPens$Triple" "v" "I", Cond.sameField "TwoPens$Triple" "TwoPens$Line" "v" "I", Cond.methodLink RX9 16 yX10_seconds, Cond.sameMethod "TwoPens$Twin" "TwoPens$Twin" "seconds" "(I)I", Cond.superclass RX9 RX10, Cond.instanceMethod yX10_seconds, Cond.code yX10_seconds cX10_seconds 2 (some .int), Cond.fieldLink RX10 7 "TwoPens$Twin" "slow" "I", Cond.sameField "TwoPens$Twin" "TwoPens$Line" "slow" "I", Cond.fieldLink RX10 13 "TwoPens$Twin" "v" "I", Cond.sameField "TwoPens$Twin" "TwoPens$Line" "v" "I", Cond.selects RX10 ⟨"TwoPens$Line", "seconds", "(I)I"⟩ yX10_seconds, Cond.methodLink RX11 122 yX2_penceOf]
def wsL_law_r23 : List Cond := [Cond.instanceMethod yX2_penceOf, Cond.selects RX2 yX2_penceOf yX2_penceOf, Cond.code yX2_penceOf cX2_penceOf 4 (some .int), Cond.methodLink RX2 76 ⟨"TwoPens$Line", "pence", "(I)I"⟩, Cond.sameMethod "TwoPens$Line" "TwoPens$Line" "pence" "(I)I", Cond.selects RX0 ⟨"TwoPens$Line", "pence", "(I)I"⟩ yX4_pence, Cond.instanceMethod yX4_pence, Cond.code yX4_pence cX4_pence 2 (some .int), Cond.selects RX1 ⟨"TwoPens$Line", "pence", "(I)I"⟩ yX4_pence, Cond.instanceMethod ⟨"TwoPens$Line", "pence", "(I)I"⟩, Cond.selects RX3 ⟨"TwoPens$Line", "pence", "(I)I"⟩ yX3_pence, Cond.instanceMethod yX3_pence, Cond.code yX3_pence cX3_pence 2 (some .int), Cond.fieldLink RX3 7 "TwoPens$Lent" "v" "I", Cond.sameField "TwoPens$Lent" "TwoPens$Line" "v" "I", Cond.methodLink RX2 76 yX4_pence, Cond.selects RX4 yX4_pence yX4_pence, Cond.selects RX7 ⟨"TwoPens$Line", "pence", "(I)I"⟩ yX3_pence, Cond.selects RX9 ⟨"TwoPens$Line", "pence", "(I)I"⟩ yX4_pence, Cond.selects RX10 ⟨"TwoPens$Line", "pence", "(I)I"⟩ yX4_pence, Cond.methodLink RL 40 yX12_write, Cond.instanceMethod yX12_write, Cond.selects RX12 yX12_write yX12_write, Cond.code yX12_write cX12_write 4 (some .int)]
def wsL_law_r24 : List Cond := [Cond.methodLink RX12 142 yX12_secondsOf, Cond.instanceMethod yX12_secondsOf, Cond.selects RX12 yX12_secondsOf yX12_secondsOf, Cond.code yX12_secondsOf cX12_secondsOf 4 (some .int), Cond.methodLink RX12 129 yX12_twins, Cond.instanceMethod yX12_twins, Cond.selects RX12 yX12_twins yX12_twins, Cond.code yX12_twins cX12_twins 3 (some .int), Cond.methodLink RX12 132 yX12_columns, Cond.instanceMethod yX12_columns, Cond.selects RX12 yX12_columns yX12_columns, Cond.code yX12_columns cX12_columns 3 (some .int), Cond.methodLink RX12 135 yX12_byHand, Cond.instanceMethod yX12_byHand, Cond.selects RX12 yX12_byHand yX12_byHand, Cond.code yX12_byHand cX12_byHand 5 (some .int), Cond.methodLink RX12 145 yX12_penceOf, Cond.instanceMethod yX12_penceOf, Cond.selects RX12 yX12_penceOf yX12_penceOf, Cond.code yX12_penceOf cX12_penceOf 3 (some .int), Cond.methodLink RL 41 yX11_tear, Cond.instanceMethod yX11_tear, Cond.selects RX11 yX11_tear yX11_tear, Cond.code yX11_tear cX11_tear 2 (some .int)]
def wsL_law_r25 : List Cond := [Cond.fieldLink RX11 125 "TwoPens$Desk" "shown" "LTwoPens$Numbers;", Cond.methodLink RL 44 yX12_tear, Cond.instanceMethod yX12_tear, Cond.selects RX12 yX12_tear yX12_tear, Cond.code yX12_tear cX12_tear 2 (some .int), Cond.methodLink RL 45 yX11_line, Cond.instanceMethod yX11_line, Cond.selects RX11 yX11_line yX11_line, Cond.code yX11_line cX11_line 4 (some .int), Cond.methodLink RX11 128 yX5_hasPlace, Cond.instanceMethod yX5_hasPlace, Cond.selects RX5 yX5_hasPlace yX5_hasPlace, Cond.code yX5_hasPlace cX5_hasPlace 2 (some .boolean), Cond.methodLink RX11 131 yX11_isPart, Cond.static yX11_isPart, Cond.code yX11_isPart cX11_isPart 1 (some .boolean), Cond.methodLink RX11 134 yX2_signAt, Cond.instanceMethod yX2_signAt, Cond.selects RX2 yX2_signAt yX2_signAt, Cond.code yX2_signAt cX2_signAt 2 (some .int), Cond.methodLink RX2 98 yX2_signIf, Cond.instanceMethod yX2_signIf, Cond.selects RX2 yX2_signIf yX2_signIf, Cond.code yX2_signIf cX2_signIf 6 (some .int)]
def wsL_law_r26 : List Cond := [Cond.fieldLink RX2 105 "TwoPens$Line" "number" "I", Cond.methodLink RX2 102 yX2_numberIf, Cond.instanceMethod yX2_numberIf, Cond.selects RX2 yX2_numberIf yX2_numberIf, Cond.code yX2_numberIf cX2_numberIf 4 (some .int), Cond.methodLink RX2 95 yX5_get, Cond.methodLink RX2 108 yX6_signOf, Cond.instanceMethod yX6_signOf, Cond.selects RX6 yX6_signOf yX6_signOf, Cond.code yX6_signOf cX6_signOf 9 (some .int), Cond.methodLink RX6 121 yX6_holds, Cond.static yX6_holds, Cond.code yX6_holds cX6_holds 6 (some .boolean), Cond.methodLink RX6 125 yX6_valueAsked, Cond.static yX6_valueAsked, Cond.code yX6_valueAsked cX6_valueAsked 4 (some .int), Cond.fieldLink RX6 129 "TwoPens$Line" "number" "I", Cond.fieldLink RX6 134 "TwoPens$Line" "kind" "I", Cond.fieldLink RX6 137 "TwoPens$Line" "v" "I", Cond.methodLink RX11 137 yX5_get, Cond.methodLink RL 48 yX12_line, Cond.instanceMethod yX12_line, Cond.selects RX12 yX12_line yX12_line, Cond.code yX12_line cX12_line 3 (some .int)]
def wsL_law_r27 : List Cond := [Cond.methodLink RX12 148 yX12_signAt, Cond.instanceMethod yX12_signAt, Cond.selects RX12 yX12_signAt yX12_signAt, Cond.code yX12_signAt cX12_signAt 12 (some .int), Cond.methodLink RX12 125 yX12_wayAt, Cond.instanceMethod yX12_wayAt, Cond.selects RX12 yX12_wayAt yX12_wayAt, Cond.code yX12_wayAt cX12_wayAt 2 (some .int), Cond.methodLink RX12 117 yX12_tellsOf, Cond.instanceMethod yX12_tellsOf, Cond.selects RX12 yX12_tellsOf yX12_tellsOf, Cond.code yX12_tellsOf cX12_tellsOf 3 (some .int), Cond.methodLink RL 49 yX11_told, Cond.instanceMethod yX11_told, Cond.selects RX11 yX11_told yX11_told, Cond.code yX11_told cX11_told 2 (some .int), Cond.fieldLink RX11 140 "TwoPens$School" "want" "I", Cond.fieldLink RX11 143 "TwoPens$School" "look" "I", Cond.fieldLink RX11 146 "TwoPens$School" "count" "I", Cond.methodLink RX11 149 yX2_placeCount, Cond.instanceMethod yX2_placeCount, Cond.selects RX2 yX2_placeCount yX2_placeCount, Cond.code yX2_placeCount cX2_placeCount 1 (some .int), Cond.fieldLink RX2 83 "TwoPens$School" "look" "I"]
def wsL_law_r28 : List Cond := [Cond.methodLink RX2 86 Lib.Math.min.name, Cond.fieldLink RX2 92 "TwoPens$School" "want" "I", Cond.methodLink RX2 79 yX5_size, Cond.methodLink RX11 152 yX2_placeAt, Cond.instanceMethod yX2_placeAt, Cond.selects RX2 yX2_placeAt yX2_placeAt, Cond.code yX2_placeAt cX2_placeAt 2 (some .int), Cond.methodLink RL 52 yX12_told, Cond.instanceMethod yX12_told, Cond.selects RX12 yX12_told yX12_told, Cond.code yX12_told cX12_told 2 (some .int), Cond.fieldLink RX12 151 "TwoPensModel" "placeMany" "I", Cond.methodLink RX12 163 yX12_looksForPlaces, Cond.instanceMethod yX12_looksForPlaces, Cond.selects RX12 yX12_looksForPlaces yX12_looksForPlaces, Cond.code yX12_looksForPlaces cX12_looksForPlaces 5 none, Cond.methodLink RX12 154 yX12_wantNow, Cond.instanceMethod yX12_wantNow, Cond.selects RX12 yX12_wantNow yX12_wantNow, Cond.code yX12_wantNow cX12_wantNow 1 (some .int), Cond.methodLink RX12 121 yX12_within, Cond.static yX12_within, Cond.code yX12_within cX12_within 3 (some .int), Cond.methodLink RX12 157 yX12_lookNow]
def wsL_law_r29 : List Cond := [Cond.instanceMethod yX12_lookNow, Cond.selects RX12 yX12_lookNow yX12_lookNow, Cond.code yX12_lookNow cX12_lookNow 1 (some .int), Cond.methodLink RX12 160 yX12_isPlace, Cond.instanceMethod yX12_isPlace, Cond.selects RX12 yX12_isPlace yX12_isPlace, Cond.code yX12_isPlace cX12_isPlace 4 (some .boolean), Cond.methodLink RX12 166 yX12_missing, Cond.instanceMethod yX12_missing, Cond.selects RX12 yX12_missing yX12_missing, Cond.code yX12_missing cX12_missing 3 (some .int), Cond.methodLink RL 53 yX11_cost, Cond.instanceMethod yX11_cost, Cond.selects RX11 yX11_cost yX11_cost, Cond.code yX11_cost cX11_cost 4 (some .int), Cond.methodLink RL 56 yX12_cost, Cond.instanceMethod yX12_cost, Cond.selects RX12 yX12_cost yX12_cost, Cond.code yX12_cost cX12_cost 4 (some .int), Cond.methodLink RL 57 yX11_looks, Cond.instanceMethod yX11_looks, Cond.selects RX11 yX11_looks yX11_looks, Cond.code yX11_looks cX11_looks 2 (some .int), Cond.fieldLink RX11 155 "TwoPens$Desk" "places" "LTwoPens$Numbers;"]
def wsL_law_r30 : List Cond := [Cond.methodLink RX11 158 yX11_isPlace, Cond.static yX11_isPlace, Cond.code yX11_isPlace cX11_isPlace 1 (some .boolean), Cond.methodLink RL 60 yX12_looks, Cond.instanceMethod yX12_looks, Cond.selects RX12 yX12_looks yX12_looks, Cond.code yX12_looks cX12_looks 3 (some .int), Cond.methodLink RL 61 yX11_safe, Cond.instanceMethod yX11_safe, Cond.selects RX11 yX11_safe yX11_safe, Cond.code yX11_safe cX11_safe 2 (some .long), Cond.methodLink RX11 161 yX2_unseenNow, Cond.instanceMethod yX2_unseenNow, Cond.selects RX2 yX2_unseenNow yX2_unseenNow, Cond.code yX2_unseenNow cX2_unseenNow 1 (some .long), Cond.methodLink RX2 112 yX2_unseenIf, Cond.instanceMethod yX2_unseenIf, Cond.selects RX2 yX2_unseenIf yX2_unseenIf, Cond.code yX2_unseenIf cX2_unseenIf 6 (some .long), Cond.fieldLink RX2 116 "TwoPens$School" "count" "I", Cond.methodLink RX2 119 yX2_writtenIf, Cond.instanceMethod yX2_writtenIf, Cond.selects RX2 yX2_writtenIf yX2_writtenIf, Cond.code yX2_writtenIf cX2_writtenIf 5 (some .int)]
def wsL_law_r31 : List Cond := [Cond.methodLink RX2 122 yX2_placeCount, Cond.methodLink RX2 125 yX2_placeAt, Cond.methodLink RX11 165 yX11_hundreds, Cond.static yX11_hundreds, Cond.code yX11_hundreds cX11_hundreds 4 (some .long), Cond.constantLong RX11 257 (100), Cond.methodLink RX11 169 yX11_lowest, Cond.static yX11_lowest, Cond.code yX11_lowest cX11_lowest 9 (some .long), Cond.constantLong RX11 175 (-9223372036854775808), Cond.methodLink RX11 259 Lib.MathLoose.abs_long.x, Cond.static Lib.MathLoose.abs_long.x, Cond.code Lib.MathLoose.abs_long.x Lib.MathLoose.abs_long.code 2 (some .long), Cond.methodLink RX11 263 yX11_common, Cond.static yX11_common, Cond.code yX11_common cX11_common 7 (some .long), Cond.methodLink RL 65 yX12_safe, Cond.instanceMethod yX12_safe, Cond.selects RX12 yX12_safe yX12_safe, Cond.code yX12_safe cX12_safe 2 (some .long), Cond.constantLong RX12 189 (-9223372036854775808), Cond.methodLink RX12 178 yX12_safeWays, Cond.instanceMethod yX12_safeWays, Cond.selects RX12 yX12_safeWays yX12_safeWays]
def wsL_law_r32 : List Cond := [Cond.code yX12_safeWays cX12_safeWays 4 (some .long), Cond.methodLink RX12 175 yX12_isShort, Cond.instanceMethod yX12_isShort, Cond.selects RX12 yX12_isShort yX12_isShort, Cond.code yX12_isShort cX12_isShort 1 (some .boolean), Cond.methodLink RX12 169 yX12_doesCount, Cond.instanceMethod yX12_doesCount, Cond.selects RX12 yX12_doesCount yX12_doesCount, Cond.code yX12_doesCount cX12_doesCount 1 (some .boolean), Cond.methodLink RX12 182 yX12_allWays, Cond.instanceMethod yX12_allWays, Cond.selects RX12 yX12_allWays yX12_allWays, Cond.code yX12_allWays cX12_allWays 4 (some .long), Cond.constantLong RX12 173 (100), Cond.methodLink RX12 185 yX12_lowest, Cond.static yX12_lowest, Cond.code yX12_lowest cX12_lowest 11 (some .long), Cond.methodLink RL 66 yX11_again, Cond.instanceMethod yX11_again, Cond.selects RX11 yX11_again yX11_again, Cond.code yX11_again cX11_again 4 (some .long), Cond.constantLong RX11 173 (2), Cond.methodLink RL 69 yX12_again, Cond.instanceMethod yX12_again]
def wsL_law_r33 : List Cond := [Cond.selects RX12 yX12_again yX12_again, Cond.code yX12_again cX12_again 4 (some .long), Cond.constantLong RX12 191 (2), Cond.methodLink RL 70 yX11_twice, Cond.instanceMethod yX11_twice, Cond.selects RX11 yX11_twice yX11_twice, Cond.code yX11_twice cX11_twice 8 (some .long), Cond.methodLink RX11 177 Lib.Math.min.name, Cond.methodLink RL 74 yX12_twice, Cond.instanceMethod yX12_twice, Cond.selects RX12 yX12_twice yX12_twice, Cond.code yX12_twice cX12_twice 8 (some .long), Cond.methodLink RL 75 yX11_quick, Cond.instanceMethod yX11_quick, Cond.selects RX11 yX11_quick yX11_quick, Cond.code yX11_quick cX11_quick 7 (some .int), Cond.methodLink RX11 182 yX11_isPence, Cond.static yX11_isPence, Cond.code yX11_isPence cX11_isPence 1 (some .boolean), Cond.methodLink RL 78 yX12_quick, Cond.instanceMethod yX12_quick, Cond.selects RX12 yX12_quick yX12_quick, Cond.code yX12_quick cX12_quick 8 (some .int), Cond.methodLink RL 79 yX11_change]
def wsL_law_r34 : List Cond := [Cond.instanceMethod yX11_change, Cond.selects RX11 yX11_change yX11_change, Cond.code yX11_change cX11_change 6 (some .int), Cond.constant RX11 185 (2147483647), Cond.methodLink RX11 186 yX11_bestChangeAt, Cond.instanceMethod yX11_bestChangeAt, Cond.selects RX11 yX11_bestChangeAt yX11_bestChangeAt, Cond.code yX11_bestChangeAt cX11_bestChangeAt 13 (some .int), Cond.methodLink RL 82 yX12_change, Cond.instanceMethod yX12_change, Cond.selects RX12 yX12_change yX12_change, Cond.code yX12_change cX12_change 7 (some .int), Cond.fieldLink RX12 193 "TwoPensModel" "bestSeconds" "I", Cond.fieldLink RX12 196 "TwoPensModel" "bestFirst" "I", Cond.fieldLink RX12 199 "TwoPensModel" "bestAt" "I", Cond.fieldLink RX12 202 "TwoPensModel" "bestSecond" "I", Cond.methodLink RX12 205 yX12_triesChange, Cond.instanceMethod yX12_triesChange, Cond.selects RX12 yX12_triesChange yX12_triesChange, Cond.code yX12_triesChange cX12_triesChange 7 none, Cond.methodLink RL 83 yX11_rests, Cond.instanceMethod yX11_rests, Cond.selects RX11 yX11_rests yX11_rests, Cond.code yX11_rests cX11_rests 7 (some .int)]
def wsL_law_r35 : List Cond := [Cond.methodLink RX11 190 yX11_withRests, Cond.instanceMethod yX11_withRests, Cond.selects RX11 yX11_withRests yX11_withRests, Cond.code yX11_withRests cX11_withRests 7 (some .int), Cond.methodLink RL 87 yX12_rests, Cond.instanceMethod yX12_rests, Cond.selects RX12 yX12_rests yX12_rests, Cond.code yX12_rests cX12_rests 10 (some .int), Cond.constant RX12 209 (1000000), Cond.methodLink RL 88 yX11_mend, Cond.instanceMethod yX11_mend, Cond.selects RX11 yX11_mend yX11_mend, Cond.code yX11_mend cX11_mend 9 (some .int), Cond.methodLink RX11 194 yX2_unseenIf, Cond.methodLink RL 91 yX12_mend, Cond.instanceMethod yX12_mend, Cond.selects RX12 yX12_mend yX12_mend, Cond.code yX12_mend cX12_mend 10 (some .int), Cond.methodLink RL 92 yX11_where, Cond.instanceMethod yX11_where, Cond.selects RX11 yX11_where yX11_where, Cond.code yX11_where cX11_where 5 (some .int), Cond.methodLink RX11 198 yX11_nextWhere, Cond.instanceMethod yX11_nextWhere]
def wsL_law_r36 : List Cond := [Cond.selects RX11 yX11_nextWhere yX11_nextWhere, Cond.code yX11_nextWhere cX11_nextWhere 8 (some .int), Cond.methodLink RL 95 yX12_where, Cond.instanceMethod yX12_where, Cond.selects RX12 yX12_where yX12_where, Cond.code yX12_where cX12_where 6 (some .int), Cond.methodLink RL 96 yX11_left, Cond.instanceMethod yX11_left, Cond.selects RX11 yX11_left yX11_left, Cond.code yX11_left cX11_left 3 (some .int), Cond.methodLink RL 99 yX12_left, Cond.instanceMethod yX12_left, Cond.selects RX12 yX12_left yX12_left, Cond.code yX12_left cX12_left 3 (some .int), Cond.methodLink RL 100 yX11_longest, Cond.instanceMethod yX11_longest, Cond.selects RX11 yX11_longest yX11_longest, Cond.code yX11_longest cX11_longest 7 (some .int), Cond.methodLink RL 103 yX12_longest, Cond.instanceMethod yX12_longest, Cond.selects RX12 yX12_longest yX12_longest, Cond.code yX12_longest cX12_longest 6 (some .int), Cond.methodLink RL 104 yX11_show, Cond.instanceMethod yX11_show]
def wsL_law_r37 : List Cond := [Cond.selects RX11 yX11_show yX11_show, Cond.code yX11_show cX11_show 2 (some .int), Cond.methodLink RL 107 yX12_show, Cond.instanceMethod yX12_show, Cond.selects RX12 yX12_show yX12_show, Cond.code yX12_show cX12_show 2 (some .int), Cond.methodLink RL 108 yX11_whose, Cond.instanceMethod yX11_whose, Cond.selects RX11 yX11_whose yX11_whose, Cond.code yX11_whose cX11_whose 3 (some .int), Cond.methodLink RX11 201 yX11_couldBeBy, Cond.instanceMethod yX11_couldBeBy, Cond.selects RX11 yX11_couldBeBy yX11_couldBeBy, Cond.code yX11_couldBeBy cX11_couldBeBy 4 (some .boolean), Cond.methodLink RX11 267 yX2_signIf, Cond.methodLink RL 111 yX12_whose, Cond.instanceMethod yX12_whose, Cond.selects RX12 yX12_whose yX12_whose, Cond.code yX12_whose cX12_whose 5 (some .int), Cond.methodLink RX12 210 yX12_wouldShow, Cond.instanceMethod yX12_wouldShow, Cond.selects RX12 yX12_wouldShow yX12_wouldShow, Cond.code yX12_wouldShow cX12_wouldShow 5 (some .boolean), Cond.methodLink RL 112 yX11_wanted]
def wsL_law_r38 : List Cond := [Cond.instanceMethod yX11_wanted, Cond.selects RX11 yX11_wanted yX11_wanted, Cond.code yX11_wanted cX11_wanted 2 (some .int), Cond.fieldLink RX11 204 "TwoPens$Desk" "days" "LTwoPens$Numbers;", Cond.methodLink RL 115 yX12_wanted, Cond.instanceMethod yX12_wanted, Cond.selects RX12 yX12_wanted yX12_wanted, Cond.code yX12_wanted cX12_wanted 2 (some .int), Cond.methodLink RL 116 yX11_stock, Cond.instanceMethod yX11_stock, Cond.selects RX11 yX11_stock yX11_stock, Cond.code yX11_stock cX11_stock 3 (some .int), Cond.methodLink RX11 207 yX11_isCost, Cond.static yX11_isCost, Cond.code yX11_isCost cX11_isCost 1 (some .boolean), Cond.methodLink RX11 210 yX11_bestStock, Cond.instanceMethod yX11_bestStock, Cond.selects RX11 yX11_bestStock yX11_bestStock, Cond.code yX11_bestStock cX11_bestStock 5 (some .int), Cond.methodLink RX11 213 yX11_costOfStock, Cond.instanceMethod yX11_costOfStock, Cond.selects RX11 yX11_costOfStock yX11_costOfStock, Cond.code yX11_costOfStock cX11_costOfStock 7 (some .int), Cond.methodLink RL 119 yX12_stock]
def wsL_law_r39 : List Cond := [Cond.instanceMethod yX12_stock, Cond.selects RX12 yX12_stock yX12_stock, Cond.code yX12_stock cX12_stock 3 (some .int), Cond.methodLink RX12 217 yX12_stockOf, Cond.instanceMethod yX12_stockOf, Cond.selects RX12 yX12_stockOf yX12_stockOf, Cond.code yX12_stockOf cX12_stockOf 8 (some .int), Cond.fieldLink RX12 214 "TwoPensModel" "leastCost" "I", Cond.methodLink RL 120 yX11_mean, Cond.instanceMethod yX11_mean, Cond.selects RX11 yX11_mean yX11_mean, Cond.code yX11_mean cX11_mean 4 (some .long), Cond.methodLink RL 124 yX12_mean, Cond.instanceMethod yX12_mean, Cond.selects RX12 yX12_mean yX12_mean, Cond.code yX12_mean cX12_mean 4 (some .long), Cond.methodLink RL 125 yX11_table, Cond.instanceMethod yX11_table, Cond.selects RX11 yX11_table yX11_table, Cond.code yX11_table cX11_table 8 (some .long), Cond.methodLink RX11 219 Lib.Math.max.name, Cond.methodLink RX11 216 yX11_isEntry, Cond.static yX11_isEntry, Cond.code yX11_isEntry cX11_isEntry 1 (some .boolean)]
def wsL_law_r40 : List Cond := [Cond.methodLink RL 129 yX12_table, Cond.instanceMethod yX12_table, Cond.selects RX12 yX12_table yX12_table, Cond.code yX12_table cX12_table 16 (some .long), Cond.methodLink RX12 220 yX12_isPaid, Cond.static yX12_isPaid, Cond.code yX12_isPaid cX12_isPaid 1 (some .boolean), Cond.methodLink RL 130 yX11_book, Cond.instanceMethod yX11_book, Cond.selects RX11 yX11_book yX11_book, Cond.code yX11_book cX11_book 4 (some .int), Cond.fieldLink RX11 222 "TwoPens$Desk" "bookPlaces" "LTwoPens$Numbers;", Cond.fieldLink RX11 225 "TwoPens$Desk" "bookWays" "LTwoPens$Numbers;", Cond.methodLink RL 133 yX12_book, Cond.instanceMethod yX12_book, Cond.selects RX12 yX12_book yX12_book, Cond.code yX12_book cX12_book 3 (some .int), Cond.methodLink RL 134 yX11_looked, Cond.instanceMethod yX11_looked, Cond.selects RX11 yX11_looked yX11_looked, Cond.code yX11_looked cX11_looked 2 (some .int), Cond.methodLink RL 137 yX12_looked, Cond.instanceMethod yX12_looked, Cond.selects RX12 yX12_looked yX12_looked]
def wsL_law_r41 : List Cond := [Cond.code yX12_looked cX12_looked 2 (some .int), Cond.methodLink RL 138 yX11_act, Cond.instanceMethod yX11_act, Cond.selects RX11 yX11_act yX11_act, Cond.code yX11_act cX11_act 5 (some .int), Cond.methodLink RX11 228 yX8_clear, Cond.instanceMethod yX8_clear, Cond.selects RX8 yX8_clear yX8_clear, Cond.code yX8_clear cX8_clear 1 none, Cond.fieldLink RX8 15 "TwoPens$Trace" "all" "I", Cond.methodLink RX11 229 ⟨"TwoPens$Line", "writes", "(ILTwoPens$Trace;)I"⟩, Cond.sameMethod "TwoPens$Line" "TwoPens$Line" "writes" "(ILTwoPens$Trace;)I", Cond.selects RX0 ⟨"TwoPens$Line", "writes", "(ILTwoPens$Trace;)I"⟩ yX4_writes, Cond.instanceMethod yX4_writes, Cond.code yX4_writes cX4_writes 3 (some .int), Cond.methodLink RX4 22 yX8_ran, Cond.instanceMethod yX8_ran, Cond.selects RX8 yX8_ran yX8_ran, Cond.code yX8_ran cX8_ran 2 none, Cond.instanceMethod ⟨"TwoPens$Line", "writes", "(ILTwoPens$Trace;)I"⟩, Cond.selects RX1 ⟨"TwoPens$Line", "writes", "(ILTwoPens$Trace;)I"⟩ yX1_writes, Cond.instanceMethod yX1_writes, Cond.code yX1_writes cX1_writes 3 (some .int), Cond.fieldLink RX1 21 "TwoPens$Copied" "number" "I"]
def wsL_law_r42 : List Cond := [Cond.sameField "TwoPens$Copied" "TwoPens$Line" "number" "I", Cond.methodLink RX1 11 yX8_ran, Cond.selects RX3 ⟨"TwoPens$Line", "writes", "(ILTwoPens$Trace;)I"⟩ yX4_writes, Cond.methodLink RX11 229 yX4_writes, Cond.selects RX4 yX4_writes yX4_writes, Cond.selects RX7 ⟨"TwoPens$Line", "writes", "(ILTwoPens$Trace;)I"⟩ yX4_writes, Cond.selects RX9 ⟨"TwoPens$Line", "writes", "(ILTwoPens$Trace;)I"⟩ yX10_writes, Cond.instanceMethod yX10_writes, Cond.code yX10_writes cX10_writes 3 (some .int), Cond.methodLink RX10 16 yX8_ran, Cond.methodLink RX10 22 yX4_writes, Cond.superclass RX10 RX4, Cond.selects RX10 ⟨"TwoPens$Line", "writes", "(ILTwoPens$Trace;)I"⟩ yX10_writes, Cond.methodLink RX11 233 ⟨"TwoPens$Line", "shows", "(ILTwoPens$Trace;)I"⟩, Cond.sameMethod "TwoPens$Line" "TwoPens$Line" "shows" "(ILTwoPens$Trace;)I", Cond.instanceMethod ⟨"TwoPens$Line", "shows", "(ILTwoPens$Trace;)I"⟩, Cond.selects RX0 ⟨"TwoPens$Line", "shows", "(ILTwoPens$Trace;)I"⟩ yX0_shows, Cond.instanceMethod yX0_shows, Cond.code yX0_shows cX0_shows 3 (some .int), Cond.methodLink RX0 16 yX8_ran, Cond.methodLink RX0 22 yX4_shows, Cond.superclass RX0 RX4, Cond.instanceMethod yX4_shows, Cond.code yX4_shows cX4_shows 3 (some .int)]
def wsL_law_r43 : List Cond := [Cond.methodLink RX4 28 ⟨"TwoPens$Line", "writes", "(ILTwoPens$Trace;)I"⟩, Cond.methodLink RX4 28 yX4_writes, Cond.selects RX1 ⟨"TwoPens$Line", "shows", "(ILTwoPens$Trace;)I"⟩ yX0_shows, Cond.selects RX3 ⟨"TwoPens$Line", "shows", "(ILTwoPens$Trace;)I"⟩ yX4_shows, Cond.methodLink RX11 233 yX4_shows, Cond.selects RX4 yX4_shows yX4_shows, Cond.selects RX7 ⟨"TwoPens$Line", "shows", "(ILTwoPens$Trace;)I"⟩ yX7_shows, Cond.instanceMethod yX7_shows, Cond.code yX7_shows cX7_shows 3 (some .int), Cond.methodLink RX7 35 yX8_ran, Cond.selects RX9 ⟨"TwoPens$Line", "shows", "(ILTwoPens$Trace;)I"⟩ yX4_shows, Cond.selects RX10 ⟨"TwoPens$Line", "shows", "(ILTwoPens$Trace;)I"⟩ yX4_shows, Cond.methodLink RX11 236 ⟨"TwoPens$Line", "tells", "(ILTwoPens$Trace;)I"⟩, Cond.sameMethod "TwoPens$Line" "TwoPens$Line" "tells" "(ILTwoPens$Trace;)I", Cond.selects RX0 ⟨"TwoPens$Line", "tells", "(ILTwoPens$Trace;)I"⟩ yX4_tells, Cond.instanceMethod yX4_tells, Cond.code yX4_tells cX4_tells 3 (some .int), Cond.methodLink RX4 32 ⟨"TwoPens$Line", "shows", "(ILTwoPens$Trace;)I"⟩, Cond.methodLink RX4 32 yX4_shows, Cond.selects RX1 ⟨"TwoPens$Line", "tells", "(ILTwoPens$Trace;)I"⟩ yX4_tells, Cond.instanceMethod ⟨"TwoPens$Line", "tells", "(ILTwoPens$Trace;)I"⟩, Cond.selects RX3 ⟨"TwoPens$Line", "tells", "(ILTwoPens$Trace;)I"⟩ yX3_tells, Cond.instanceMethod yX3_tells, Cond.code yX3_tells cX3_tells 3 (some .int)]
def wsL_law_r44 : List Cond := [Cond.methodLink RX3 13 yX8_ran, Cond.methodLink RX3 19 yX4_tells, Cond.superclass RX3 RX4, Cond.methodLink RX11 236 yX4_tells, Cond.selects RX4 yX4_tells yX4_tells, Cond.selects RX7 ⟨"TwoPens$Line", "tells", "(ILTwoPens$Trace;)I"⟩ yX3_tells, Cond.selects RX9 ⟨"TwoPens$Line", "tells", "(ILTwoPens$Trace;)I"⟩ yX9_tells, Cond.instanceMethod yX9_tells, Cond.code yX9_tells cX9_tells 3 (some .int), Cond.methodLink RX9 20 yX8_ran, Cond.methodLink RX9 30 ⟨"TwoPens$Triple", "writes", "(ILTwoPens$Trace;)I"⟩, Cond.sameMethod "TwoPens$Triple" "TwoPens$Twin" "writes" "(ILTwoPens$Trace;)I", Cond.selects RX9 ⟨"TwoPens$Triple", "writes", "(ILTwoPens$Trace;)I"⟩ yX10_writes, Cond.selects RX10 ⟨"TwoPens$Line", "tells", "(ILTwoPens$Trace;)I"⟩ yX4_tells, Cond.methodLink RL 141 yX12_act, Cond.instanceMethod yX12_act, Cond.selects RX12 yX12_act yX12_act, Cond.code yX12_act cX12_act 4 (some .int), Cond.fieldLink RX12 223 "TwoPensModel" "ran" "I", Cond.fieldLink RX12 232 "TwoPensModel" "kind" "I", Cond.fieldLink RX12 229 "TwoPensModel" "number" "I", Cond.fieldLink RX12 244 "TwoPensModel" "tellsV" "I", Cond.methodLink RX12 241 yX12_writesActs, Cond.instanceMethod yX12_writesActs]
def wsL_law_r45 : List Cond := [Cond.selects RX12 yX12_writesActs yX12_writesActs, Cond.code yX12_writesActs cX12_writesActs 2 (some .int), Cond.methodLink RX12 235 yX12_isUnder, Cond.static yX12_isUnder, Cond.code yX12_isUnder cX12_isUnder 2 (some .boolean), Cond.methodLink RX12 226 yX12_ranBody, Cond.instanceMethod yX12_ranBody, Cond.selects RX12 yX12_ranBody yX12_ranBody, Cond.code yX12_ranBody cX12_ranBody 2 none, Cond.methodLink RX12 238 yX12_plainWrites, Cond.instanceMethod yX12_plainWrites, Cond.selects RX12 yX12_plainWrites yX12_plainWrites, Cond.code yX12_plainWrites cX12_plainWrites 2 (some .int), Cond.methodLink RX12 250 yX12_showsActs, Cond.instanceMethod yX12_showsActs, Cond.selects RX12 yX12_showsActs yX12_showsActs, Cond.code yX12_showsActs cX12_showsActs 2 (some .int), Cond.methodLink RX12 247 yX12_plainShows, Cond.instanceMethod yX12_plainShows, Cond.selects RX12 yX12_plainShows yX12_plainShows, Cond.code yX12_plainShows cX12_plainShows 2 (some .int), Cond.methodLink RX12 256 yX12_tellsActs, Cond.instanceMethod yX12_tellsActs, Cond.selects RX12 yX12_tellsActs yX12_tellsActs]
def wsL_law_r46 : List Cond := [Cond.code yX12_tellsActs cX12_tellsActs 3 (some .int), Cond.methodLink RX12 253 yX12_plainTells, Cond.instanceMethod yX12_plainTells, Cond.selects RX12 yX12_plainTells yX12_plainTells, Cond.code yX12_plainTells cX12_plainTells 2 (some .int), Cond.methodLink RL 142 yX11_trace, Cond.instanceMethod yX11_trace, Cond.selects RX11 yX11_trace yX11_trace, Cond.code yX11_trace cX11_trace 2 (some .int), Cond.methodLink RX11 239 yX8_bodyAt, Cond.instanceMethod yX8_bodyAt, Cond.selects RX8 yX8_bodyAt yX8_bodyAt, Cond.code yX8_bodyAt cX8_bodyAt 2 (some .int), Cond.methodLink RL 145 yX12_trace, Cond.instanceMethod yX12_trace, Cond.selects RX12 yX12_trace yX12_trace, Cond.code yX12_trace cX12_trace 2 (some .int), Cond.methodLink RL 146 yX11_as, Cond.instanceMethod yX11_as, Cond.selects RX11 yX11_as yX11_as, Cond.code yX11_as cX11_as 4 (some .int), Cond.methodLink RX11 242 yX11_isUnder, Cond.static yX11_isUnder, Cond.code yX11_isUnder cX11_isUnder 2 (some .boolean)]
def wsL_law_r47 : List Cond := [Cond.classLink RX11 270 "TwoPens$Twin", Cond.classLink RX11 275 "TwoPens$Column", Cond.classLink RX11 278 "TwoPens$Lent", Cond.classLink RX11 281 "TwoPens$Triple", Cond.classLink RX11 286 "TwoPens$Copied", Cond.methodLink RL 149 yX12_as, Cond.instanceMethod yX12_as, Cond.selects RX12 yX12_as yX12_as, Cond.code yX12_as cX12_as 3 (some .int), Cond.methodLink RL 150 yX11_image, Cond.instanceMethod yX11_image, Cond.selects RX11 yX11_image yX11_image, Cond.code yX11_image cX11_image 1 (some .int), Cond.fieldLink RX11 250 "TwoPens" "keptOne" "Z", Cond.methodLink RX11 246 yX2_copyAll, Cond.instanceMethod yX2_copyAll, Cond.selects RX2 yX2_copyAll yX2_copyAll, Cond.code yX2_copyAll cX2_copyAll 3 none, Cond.fieldLink RX2 55 "TwoPens$Desk" "schools" "I", Cond.fieldLink RX2 62 "TwoPens$Desk" "spent" "I", Cond.fieldLink RX2 65 "TwoPens$Desk" "paid" "I", Cond.methodLink RX2 58 yX5_copy, Cond.instanceMethod yX5_copy, Cond.selects RX5 yX5_copy yX5_copy]
def wsL_law_r48 : List Cond := [Cond.code yX5_copy cX5_copy 3 none, Cond.methodLink RX5 27 yX5_clear, Cond.methodLink RX5 30 yX5_add, Cond.methodLink RL 153 yX12_image, Cond.instanceMethod yX12_image, Cond.selects RX12 yX12_image yX12_image, Cond.code yX12_image cX12_image 2 (some .int), Cond.fieldLink RX12 259 "TwoPensModel" "hasImage" "Z", Cond.methodLink RL 154 yX11_undo, Cond.instanceMethod yX11_undo, Cond.selects RX11 yX11_undo yX11_undo, Cond.code yX11_undo cX11_undo 1 (some .int), Cond.methodLink RL 157 yX12_undo, Cond.instanceMethod yX12_undo, Cond.selects RX12 yX12_undo yX12_undo, Cond.code yX12_undo cX12_undo 2 (some .int), Cond.methodLink RL 158 yX11_count, Cond.instanceMethod yX11_count, Cond.selects RX11 yX11_count yX11_count, Cond.code yX11_count cX11_count 2 (some .int), Cond.fieldLink RX11 254 "TwoPens$Trace" "all" "I", Cond.methodLink RL 161 yX12_count, Cond.instanceMethod yX12_count, Cond.selects RX12 yX12_count yX12_count]
def wsL_law_r49 : List Cond := [Cond.code yX12_count cX12_count 2 (some .int)]
def wsL_law : List Cond := (wsL_law_r1 ++ (wsL_law_r2 ++ (wsL_law_r3 ++ (wsL_law_r4 ++ (wsL_law_r5 ++ (wsL_law_r6 ++ (wsL_law_r7 ++ (wsL_law_r8 ++ (wsL_law_r9 ++ (wsL_law_r10 ++ (wsL_law_r11 ++ (wsL_law_r12 ++ (wsL_law_r13 ++ (wsL_law_r14 ++ (wsL_law_r15 ++ (wsL_law_r16 ++ (wsL_law_r17 ++ (wsL_law_r18 ++ (wsL_law_r19 ++ (wsL_law_r20 ++ (wsL_law_r21 ++ (wsL_law_r22 ++ (wsL_law_r23 ++ (wsL_law_r24 ++ (wsL_law_r25 ++ (wsL_law_r26 ++ (wsL_law_r27 ++ (wsL_law_r28 ++ (wsL_law_r29 ++ (wsL_law_r30 ++ (wsL_law_r31 ++ (wsL_law_r32 ++ (wsL_law_r33 ++ (wsL_law_r34 ++ (wsL_law_r35 ++ (wsL_law_r36 ++ (wsL_law_r37 ++ (wsL_law_r38 ++ (wsL_law_r39 ++ (wsL_law_r40 ++ (wsL_law_r41 ++ (wsL_law_r42 ++ (wsL_law_r43 ++ (wsL_law_r44 ++ (wsL_law_r45 ++ (wsL_law_r46 ++ (wsL_law_r47 ++ (wsL_law_r48 ++ wsL_law_r49)))))))))))))))))))))))))))))))))))))))))))))))) ++ wsX110 ++ wsX120 ++ wsX20 ++ wsX80 ++ wsX60 ++ wsX50 ++ wsX100 ++ wsX00 ++ wsX30 ++ wsX90 ++ wsX10 ++ wsX70 ++ wsX40 ++ ([] : List Cond)
theorem tbl_1 : ∀ w ∈ tables_1_1, w ∈ lw_tbl := fun _ h => List.mem_append_right _ (List.mem_append_left _ (h))
theorem tbl_2 : ∀ w ∈ tables_1_2, w ∈ lw_tbl := fun _ h => List.mem_append_right _ (List.mem_append_right _ (List.mem_append_left _ (h)))
theorem tbl_3 : ∀ w ∈ tables_1_3, w ∈ lw_tbl := fun _ h => List.mem_append_right _ (List.mem_append_right _ (List.mem_append_right _ (List.mem_append_left _ (h))))
theorem tbl_4 : ∀ w ∈ tables_1_4, w ∈ lw_tbl := fun _ h => List.mem_append_right _ (List.mem_append_right _ (List.mem_append_right _ (List.mem_append_right _ (List.mem_append_left _ (h)))))
theorem tbl_5 : ∀ w ∈ tables_1_5, w ∈ lw_tbl := fun _ h => List.mem_append_right _ (List.mem_append_right _ (List.mem_append_right _ (List.mem_append_right _ (List.mem_append_right _ (List.mem_append_left _ (h))))))
theorem tbl_6 : ∀ w ∈ tables_1_6, w ∈ lw_tbl := fun _ h => List.mem_append_right _ (List.mem_append_right _ (List.mem_append_right _ (List.mem_append_right _ (List.mem_append_right _ (List.mem_append_right _ (h))))))
theorem tbp_1 : ∀ q ∈ lw_privs_1, Cond.selects q.1.cls q.1 q.1 ∈ lw_tbl := fun _ h => List.mem_append_left _ (List.mem_map.mpr ⟨_, List.mem_append_left _ (h), rfl⟩)
theorem tbp_2 : ∀ q ∈ lw_privs_2, Cond.selects q.1.cls q.1 q.1 ∈ lw_tbl := fun _ h => List.mem_append_left _ (List.mem_map.mpr ⟨_, List.mem_append_right _ (List.mem_append_left _ (h)), rfl⟩)
theorem tbp_3 : ∀ q ∈ lw_privs_3, Cond.selects q.1.cls q.1 q.1 ∈ lw_tbl := fun _ h => List.mem_append_left _ (List.mem_map.mpr ⟨_, List.mem_append_right _ (List.mem_append_right _ (List.mem_append_left _ (h))), rfl⟩)
theorem tbp_4 : ∀ q ∈ lw_privs_4, Cond.selects q.1.cls q.1 q.1 ∈ lw_tbl := fun _ h => List.mem_append_left _ (List.mem_map.mpr ⟨_, List.mem_append_right _ (List.mem_append_right _ (List.mem_append_right _ (h))), rfl⟩)
theorem tb0 : Cond.classLink RL 7 RX11 ∈ lw_tbl := tbl_1 _ (List.mem_of_getElem? (i := 20) (by decide +kernel))
theorem tb1 : Cond.instantiable RX11 4 ∈ lw_tbl := tbl_1 _ (List.mem_of_getElem? (i := 21) (by decide +kernel))
theorem tb2 : Cond.initialized RX11 ∈ lw_tbl := tbl_1 _ (List.mem_of_getElem? (i := 1) (by decide +kernel))
theorem tb3 : Cond.classLink RL 10 RX12 ∈ lw_tbl := tbl_4 _ (List.mem_of_getElem? (i := 186) (by decide +kernel))
theorem tb4 : Cond.instantiable RX12 24 ∈ lw_tbl := tbl_4 _ (List.mem_of_getElem? (i := 187) (by decide +kernel))
theorem tb5 : Cond.initialized RX12 ∈ lw_tbl := tbl_1 _ (List.mem_of_getElem? (i := 7) (by decide +kernel))
theorem tb6 : Cond.methodLink RL 9 yX11_init ∈ lw_tbl := tbl_1 _ (List.mem_of_getElem? (i := 22) (by decide +kernel))
theorem tb7 : Cond.instanceMethod yX11_init ∈ lw_tbl := tbl_1 _ (List.mem_of_getElem? (i := 23) (by decide +kernel))
theorem tb8 : Cond.code yX11_init cX11_init 1 none ∈ lw_tbl := tbl_1 _ (List.mem_of_getElem? (i := 24) (by decide +kernel))
theorem tb9 : Cond.methodLink RX11 3 objectInit ∈ lw_tbl := tbl_1 _ (List.mem_of_getElem? (i := 25) (by decide +kernel))
theorem tb10 : Cond.instanceMethod objectInit ∈ lw_tbl := tbl_1 _ (List.mem_of_getElem? (i := 26) (by decide +kernel))
theorem tb11 : Cond.code objectInit ⟨#[0xb1]⟩ 1 none ∈ lw_tbl := tbl_1 _ (List.mem_of_getElem? (i := 27) (by decide +kernel))
theorem tb12 : Cond.classLink RX11 9 RX2 ∈ lw_tbl := tbl_1 _ (List.mem_of_getElem? (i := 28) (by decide +kernel))
theorem tb13 : Cond.instantiable RX2 13 ∈ lw_tbl := tbl_1 _ (List.mem_of_getElem? (i := 29) (by decide +kernel))
theorem tb14 : Cond.initialized RX2 ∈ lw_tbl := tbl_1 _ (List.mem_of_getElem? (i := 2) (by decide +kernel))
theorem tb15 : Cond.fieldLink RX11 12 "TwoPens" "desk" "LTwoPens$Desk;" ∈ lw_tbl := tbl_1 _ (List.mem_of_getElem? (i := 146) (by decide +kernel))
theorem tb16 : Cond.fieldLink RX11 18 "TwoPens" "kept" "LTwoPens$Desk;" ∈ lw_tbl := tbl_1 _ (List.mem_of_getElem? (i := 147) (by decide +kernel))
theorem tb17 : Cond.classLink RX11 21 RX8 ∈ lw_tbl := tbl_1 _ (List.mem_of_getElem? (i := 132) (by decide +kernel))
theorem tb18 : Cond.instantiable RX8 2 ∈ lw_tbl := tbl_1 _ (List.mem_of_getElem? (i := 133) (by decide +kernel))
theorem tb19 : Cond.initialized RX8 ∈ lw_tbl := tbl_1 _ (List.mem_of_getElem? (i := 6) (by decide +kernel))
theorem tb20 : Cond.fieldLink RX11 24 "TwoPens" "trace" "LTwoPens$Trace;" ∈ lw_tbl := tbl_1 _ (List.mem_of_getElem? (i := 149) (by decide +kernel))
theorem tb21 : Cond.instanceMethod yX2_init ∈ lw_tbl := tbl_1 _ (List.mem_of_getElem? (i := 31) (by decide +kernel))
theorem tb22 : Cond.code yX2_init cX2_init 1 none ∈ lw_tbl := tbl_1 _ (List.mem_of_getElem? (i := 32) (by decide +kernel))
theorem tb23 : Cond.methodLink RX2 3 objectInit ∈ lw_tbl := tbl_1 _ (List.mem_of_getElem? (i := 33) (by decide +kernel))
theorem tb24 : Cond.classLink RX2 9 RX4 ∈ lw_tbl := tbl_1 _ (List.mem_of_getElem? (i := 34) (by decide +kernel))
theorem tb25 : Cond.fieldLink RX2 11 "TwoPens$Desk" "ways" "[LTwoPens$Line;" ∈ lw_tbl := tbl_1 _ (List.mem_of_getElem? (i := 81) (by decide +kernel))
theorem tb26 : Cond.classLink RX2 17 RX6 ∈ lw_tbl := tbl_1 _ (List.mem_of_getElem? (i := 36) (by decide +kernel))
theorem tb27 : Cond.instantiable RX6 5 ∈ lw_tbl := tbl_1 _ (List.mem_of_getElem? (i := 37) (by decide +kernel))
theorem tb28 : Cond.initialized RX6 ∈ lw_tbl := tbl_1 _ (List.mem_of_getElem? (i := 3) (by decide +kernel))
theorem tb29 : Cond.fieldLink RX2 20 "TwoPens$Desk" "holding" "LTwoPens$School;" ∈ lw_tbl := tbl_1 _ (List.mem_of_getElem? (i := 83) (by decide +kernel))
theorem tb30 : Cond.classLink RX2 24 RX5 ∈ lw_tbl := tbl_1 _ (List.mem_of_getElem? (i := 65) (by decide +kernel))
theorem tb31 : Cond.instantiable RX5 2 ∈ lw_tbl := tbl_1 _ (List.mem_of_getElem? (i := 66) (by decide +kernel))
theorem tb32 : Cond.initialized RX5 ∈ lw_tbl := tbl_1 _ (List.mem_of_getElem? (i := 4) (by decide +kernel))
theorem tb33 : Cond.fieldLink RX2 29 "TwoPens$Desk" "tape" "LTwoPens$Numbers;" ∈ lw_tbl := tbl_1 _ (List.mem_of_getElem? (i := 87) (by decide +kernel))
theorem tb34 : Cond.fieldLink RX2 33 "TwoPens$Desk" "sheet" "LTwoPens$Numbers;" ∈ lw_tbl := tbl_1 _ (List.mem_of_getElem? (i := 89) (by decide +kernel))
theorem tb35 : Cond.fieldLink RX2 36 "TwoPens$Desk" "places" "LTwoPens$Numbers;" ∈ lw_tbl := tbl_1 _ (List.mem_of_getElem? (i := 95) (by decide +kernel))
theorem tb36 : Cond.fieldLink RX2 39 "TwoPens$Desk" "shown" "LTwoPens$Numbers;" ∈ lw_tbl := tbl_1 _ (List.mem_of_getElem? (i := 97) (by decide +kernel))
theorem tb37 : Cond.fieldLink RX2 42 "TwoPens$Desk" "days" "LTwoPens$Numbers;" ∈ lw_tbl := tbl_1 _ (List.mem_of_getElem? (i := 99) (by decide +kernel))
theorem tb38 : Cond.fieldLink RX2 45 "TwoPens$Desk" "bookPlaces" "LTwoPens$Numbers;" ∈ lw_tbl := tbl_1 _ (List.mem_of_getElem? (i := 101) (by decide +kernel))
theorem tb39 : Cond.fieldLink RX2 48 "TwoPens$Desk" "bookWays" "LTwoPens$Numbers;" ∈ lw_tbl := tbl_1 _ (List.mem_of_getElem? (i := 103) (by decide +kernel))
theorem tb40 : Cond.instanceMethod yX6_init ∈ lw_tbl := tbl_1 _ (List.mem_of_getElem? (i := 39) (by decide +kernel))
theorem tb41 : Cond.code yX6_init cX6_init 1 none ∈ lw_tbl := tbl_1 _ (List.mem_of_getElem? (i := 40) (by decide +kernel))
theorem tb42 : Cond.methodLink RX6 3 objectInit ∈ lw_tbl := tbl_1 _ (List.mem_of_getElem? (i := 41) (by decide +kernel))
theorem tb43 : Cond.fieldLink RX6 9 "TwoPens$School" "want" "I" ∈ lw_tbl := tbl_1 _ (List.mem_of_getElem? (i := 42) (by decide +kernel))
theorem tb44 : Cond.fieldLink RX6 15 "TwoPens$School" "look" "I" ∈ lw_tbl := tbl_1 _ (List.mem_of_getElem? (i := 45) (by decide +kernel))
theorem tb45 : Cond.arrayClass .int ∈ lw_tbl := tbl_1 _ (List.mem_of_getElem? (i := 64) (by decide +kernel))
theorem tb46 : Cond.fieldLink RX6 18 "TwoPens$School" "codes" "[I" ∈ lw_tbl := tbl_1 _ (List.mem_of_getElem? (i := 51) (by decide +kernel))
theorem tb47 : Cond.methodLink RX2 26 yX5_init ∈ lw_tbl := tbl_1 _ (List.mem_of_getElem? (i := 67) (by decide +kernel))
theorem tb48 : Cond.instanceMethod yX5_init ∈ lw_tbl := tbl_1 _ (List.mem_of_getElem? (i := 68) (by decide +kernel))
theorem tb49 : Cond.code yX5_init cX5_init 2 none ∈ lw_tbl := tbl_1 _ (List.mem_of_getElem? (i := 69) (by decide +kernel))
theorem tb50 : Cond.methodLink RX5 1 objectInit ∈ lw_tbl := tbl_1 _ (List.mem_of_getElem? (i := 70) (by decide +kernel))
theorem tb51 : Cond.methodLink RX5 7 Lib.Math.max.name ∈ lw_tbl := tbl_1 _ (List.mem_of_getElem? (i := 71) (by decide +kernel))
theorem tb52 : Cond.static Lib.Math.max.name ∈ lw_tbl := tbl_1 _ (List.mem_of_getElem? (i := 72) (by decide +kernel))
theorem tb53 : Cond.initialized "java/lang/Math" ∈ lw_tbl := tbl_1 _ (List.mem_of_getElem? (i := 5) (by decide +kernel))
theorem tb54 : Cond.code Lib.Math.max.name Lib.Math.max.code 2 (some .int) ∈ lw_tbl := tbl_1 _ (List.mem_of_getElem? (i := 73) (by decide +kernel))
theorem tb55 : Cond.fieldLink RX5 13 "TwoPens$Numbers" "items" "[I" ∈ lw_tbl := tbl_1 _ (List.mem_of_getElem? (i := 74) (by decide +kernel))
theorem tb56 : Cond.instanceMethod yX8_init ∈ lw_tbl := tbl_1 _ (List.mem_of_getElem? (i := 135) (by decide +kernel))
theorem tb57 : Cond.code yX8_init cX8_init 1 none ∈ lw_tbl := tbl_1 _ (List.mem_of_getElem? (i := 136) (by decide +kernel))
theorem tb58 : Cond.methodLink RX8 3 objectInit ∈ lw_tbl := tbl_1 _ (List.mem_of_getElem? (i := 137) (by decide +kernel))
theorem tb59 : Cond.fieldLink RX8 9 "TwoPens$Trace" "bodies" "[I" ∈ lw_tbl := tbl_1 _ (List.mem_of_getElem? (i := 138) (by decide +kernel))
theorem tb60 : Cond.methodLink RL 12 yX12_init ∈ lw_tbl := tbl_4 _ (List.mem_of_getElem? (i := 188) (by decide +kernel))
theorem tb61 : Cond.instanceMethod yX12_init ∈ lw_tbl := tbl_4 _ (List.mem_of_getElem? (i := 189) (by decide +kernel))
theorem tb62 : Cond.code yX12_init cX12_init 1 none ∈ lw_tbl := tbl_4 _ (List.mem_of_getElem? (i := 190) (by decide +kernel))
theorem tb63 : Cond.methodLink RX12 3 objectInit ∈ lw_tbl := tbl_4 _ (List.mem_of_getElem? (i := 191) (by decide +kernel))
theorem tb64 : Cond.fieldLink RX12 9 "TwoPensModel" "s" "[I" ∈ lw_tbl := tbl_4 _ (List.mem_of_getElem? (i := 192) (by decide +kernel))
theorem tb65 : Cond.fieldLink RX12 15 "TwoPensModel" "image" "[I" ∈ lw_tbl := tbl_4 _ (List.mem_of_getElem? (i := 193) (by decide +kernel))
theorem tb66 : Cond.fieldLink RX12 18 "TwoPensModel" "by" "[I" ∈ lw_tbl := tbl_4 _ (List.mem_of_getElem? (i := 200) (by decide +kernel))
theorem tb67 : Cond.arrayClass .boolean ∈ lw_tbl := tbl_5 _ (List.mem_of_getElem? (i := 24) (by decide +kernel))
theorem tb68 : Cond.fieldLink RX12 21 "TwoPensModel" "truths" "[Z" ∈ lw_tbl := tbl_4 _ (List.mem_of_getElem? (i := 201) (by decide +kernel))
theorem tb69 : Cond.fieldLink RX12 25 "TwoPensModel" "places" "[I" ∈ lw_tbl := tbl_4 _ (List.mem_of_getElem? (i := 202) (by decide +kernel))
theorem tb70 : Cond.fieldLink RX12 28 "TwoPensModel" "signs" "[I" ∈ lw_tbl := tbl_4 _ (List.mem_of_getElem? (i := 208) (by decide +kernel))
theorem tb71 : Cond.fieldLink RX12 31 "TwoPensModel" "bodies" "[I" ∈ lw_tbl := tbl_4 _ (List.mem_of_getElem? (i := 210) (by decide +kernel))
theorem tb72 : Cond.methodLink RL 13 yX11_feed ∈ lw_tbl := tbl_1 _ (List.mem_of_getElem? (i := 159) (by decide +kernel))
theorem tb73 : Cond.instanceMethod yX11_feed ∈ lw_tbl := tbl_1 _ (List.mem_of_getElem? (i := 160) (by decide +kernel))
theorem tb74 : Cond.selects RX11 yX11_feed yX11_feed ∈ lw_tbl := tbl_1 _ (List.mem_of_getElem? (i := 161) (by decide +kernel))
theorem tb75 : Cond.code yX11_feed cX11_feed 2 (some .int) ∈ lw_tbl := tbl_1 _ (List.mem_of_getElem? (i := 162) (by decide +kernel))
theorem tb76 : Cond.fieldLink RX11 28 "TwoPens$Desk" "tape" "LTwoPens$Numbers;" ∈ lw_tbl := tbl_1 _ (List.mem_of_getElem? (i := 88) (by decide +kernel))
theorem tb77 : Cond.methodLink RX11 32 yX5_add ∈ lw_tbl := tbl_1 _ (List.mem_of_getElem? (i := 163) (by decide +kernel))
theorem tb78 : Cond.instanceMethod yX5_add ∈ lw_tbl := tbl_1 _ (List.mem_of_getElem? (i := 164) (by decide +kernel))
theorem tb79 : Cond.selects RX5 yX5_add yX5_add ∈ lw_tbl := tbl_1 _ (List.mem_of_getElem? (i := 165) (by decide +kernel))
theorem tb80 : Cond.code yX5_add cX5_add 2 (some .boolean) ∈ lw_tbl := tbl_1 _ (List.mem_of_getElem? (i := 166) (by decide +kernel))
theorem tb81 : Cond.fieldLink RX5 19 "TwoPens$Numbers" "size" "I" ∈ lw_tbl := tbl_1 _ (List.mem_of_getElem? (i := 75) (by decide +kernel))
theorem tb82 : Cond.methodLink RX11 38 yX5_size ∈ lw_tbl := tbl_1 _ (List.mem_of_getElem? (i := 167) (by decide +kernel))
theorem tb83 : Cond.instanceMethod yX5_size ∈ lw_tbl := tbl_1 _ (List.mem_of_getElem? (i := 168) (by decide +kernel))
theorem tb84 : Cond.selects RX5 yX5_size yX5_size ∈ lw_tbl := tbl_1 _ (List.mem_of_getElem? (i := 169) (by decide +kernel))
theorem tb85 : Cond.code yX5_size cX5_size 1 (some .int) ∈ lw_tbl := tbl_1 _ (List.mem_of_getElem? (i := 170) (by decide +kernel))
theorem tb86 : Cond.methodLink RL 17 yX12_feed ∈ lw_tbl := tbl_5 _ (List.mem_of_getElem? (i := 25) (by decide +kernel))
theorem tb87 : Cond.instanceMethod yX12_feed ∈ lw_tbl := tbl_5 _ (List.mem_of_getElem? (i := 26) (by decide +kernel))
theorem tb88 : Cond.selects RX12 yX12_feed yX12_feed ∈ lw_tbl := tbl_5 _ (List.mem_of_getElem? (i := 27) (by decide +kernel))
theorem tb89 : Cond.code yX12_feed cX12_feed 2 (some .int) ∈ lw_tbl := tbl_5 _ (List.mem_of_getElem? (i := 28) (by decide +kernel))
theorem tb90 : Cond.methodLink RX12 38 yX12_in ∈ lw_tbl := tbl_5 _ (List.mem_of_getElem? (i := 29) (by decide +kernel))
theorem tb91 : Cond.static yX12_in ∈ lw_tbl := tbl_5 _ (List.mem_of_getElem? (i := 30) (by decide +kernel))
theorem tb92 : Cond.code yX12_in cX12_in 3 (some .boolean) ∈ lw_tbl := tbl_5 _ (List.mem_of_getElem? (i := 31) (by decide +kernel))
theorem tb93 : Cond.methodLink RL 18 yX11_school ∈ lw_tbl := tbl_1 _ (List.mem_of_getElem? (i := 171) (by decide +kernel))
theorem tb94 : Cond.instanceMethod yX11_school ∈ lw_tbl := tbl_1 _ (List.mem_of_getElem? (i := 172) (by decide +kernel))
theorem tb95 : Cond.selects RX11 yX11_school yX11_school ∈ lw_tbl := tbl_1 _ (List.mem_of_getElem? (i := 173) (by decide +kernel))
theorem tb96 : Cond.code yX11_school cX11_school 3 (some .int) ∈ lw_tbl := tbl_1 _ (List.mem_of_getElem? (i := 174) (by decide +kernel))
theorem tb97 : Cond.fieldLink RX11 42 "TwoPens$Desk" "schools" "I" ∈ lw_tbl := tbl_1 _ (List.mem_of_getElem? (i := 86) (by decide +kernel))
theorem tb98 : Cond.classLink RX11 46 RX6 ∈ lw_tbl := tbl_1 _ (List.mem_of_getElem? (i := 175) (by decide +kernel))
theorem tb99 : Cond.fieldLink RX11 56 "TwoPens$Desk" "holding" "LTwoPens$School;" ∈ lw_tbl := tbl_1 _ (List.mem_of_getElem? (i := 84) (by decide +kernel))
theorem tb100 : Cond.methodLink RX11 49 yX6_read ∈ lw_tbl := tbl_1 _ (List.mem_of_getElem? (i := 177) (by decide +kernel))
theorem tb101 : Cond.instanceMethod yX6_read ∈ lw_tbl := tbl_1 _ (List.mem_of_getElem? (i := 178) (by decide +kernel))
theorem tb102 : Cond.selects RX6 yX6_read yX6_read ∈ lw_tbl := tbl_1 _ (List.mem_of_getElem? (i := 179) (by decide +kernel))
theorem tb103 : Cond.code yX6_read cX6_read 4 (some .int) ∈ lw_tbl := tbl_1 _ (List.mem_of_getElem? (i := 180) (by decide +kernel))
theorem tb104 : Cond.methodLink RX6 22 yX6_clause ∈ lw_tbl := tbl_1 _ (List.mem_of_getElem? (i := 181) (by decide +kernel))
theorem tb105 : Cond.instanceMethod yX6_clause ∈ lw_tbl := tbl_1 _ (List.mem_of_getElem? (i := 183) (by decide +kernel))
theorem tb106 : Cond.selects RX6 yX6_clause yX6_clause ∈ lw_tbl := tbp_1 (yX6_clause, 5) (List.mem_of_getElem? (i := 0) (by decide +kernel))
theorem tb107 : Cond.code yX6_clause cX6_clause 3 (some .int) ∈ lw_tbl := tbl_1 _ (List.mem_of_getElem? (i := 184) (by decide +kernel))
theorem tb108 : Cond.methodLink RX6 40 yX5_get ∈ lw_tbl := tbl_1 _ (List.mem_of_getElem? (i := 185) (by decide +kernel))
theorem tb109 : Cond.instanceMethod yX5_get ∈ lw_tbl := tbl_1 _ (List.mem_of_getElem? (i := 186) (by decide +kernel))
theorem tb110 : Cond.selects RX5 yX5_get yX5_get ∈ lw_tbl := tbl_1 _ (List.mem_of_getElem? (i := 187) (by decide +kernel))
theorem tb111 : Cond.code yX5_get cX5_get 2 (some .int) ∈ lw_tbl := tbl_1 _ (List.mem_of_getElem? (i := 188) (by decide +kernel))
theorem tb112 : Cond.methodLink RX6 45 yX6_setting ∈ lw_tbl := tbl_1 _ (List.mem_of_getElem? (i := 190) (by decide +kernel))
theorem tb113 : Cond.instanceMethod yX6_setting ∈ lw_tbl := tbl_1 _ (List.mem_of_getElem? (i := 192) (by decide +kernel))
theorem tb114 : Cond.selects RX6 yX6_setting yX6_setting ∈ lw_tbl := tbp_1 (yX6_setting, 5) (List.mem_of_getElem? (i := 1) (by decide +kernel))
theorem tb115 : Cond.code yX6_setting cX6_setting 7 (some .int) ∈ lw_tbl := tbl_1 _ (List.mem_of_getElem? (i := 193) (by decide +kernel))
theorem tb116 : Cond.methodLink RX6 65 Lib.Math.min.name ∈ lw_tbl := tbl_2 _ (List.mem_of_getElem? (i := 20) (by decide +kernel))
theorem tb117 : Cond.static Lib.Math.min.name ∈ lw_tbl := tbl_2 _ (List.mem_of_getElem? (i := 21) (by decide +kernel))
theorem tb118 : Cond.code Lib.Math.min.name Lib.Math.min.code 2 (some .int) ∈ lw_tbl := tbl_2 _ (List.mem_of_getElem? (i := 22) (by decide +kernel))
theorem tb119 : Cond.methodLink RX6 71 Lib.Math.max.name ∈ lw_tbl := tbl_2 _ (List.mem_of_getElem? (i := 23) (by decide +kernel))
theorem tb120 : Cond.fieldLink RX6 74 "TwoPens$School" "count" "I" ∈ lw_tbl := tbl_1 _ (List.mem_of_getElem? (i := 48) (by decide +kernel))
theorem tb121 : Cond.methodLink RX6 56 yX6_words ∈ lw_tbl := tbl_1 _ (List.mem_of_getElem? (i := 194) (by decide +kernel))
theorem tb122 : Cond.static yX6_words ∈ lw_tbl := tbl_1 _ (List.mem_of_getElem? (i := 195) (by decide +kernel))
theorem tb123 : Cond.code yX6_words cX6_words 5 (some .int) ∈ lw_tbl := tbl_1 _ (List.mem_of_getElem? (i := 196) (by decide +kernel))
theorem tb124 : Cond.methodLink RX6 86 yJ0_length_8abf5 ∈ lw_tbl := tbl_1 _ (List.mem_of_getElem? (i := 197) (by decide +kernel))
theorem tb125 : Cond.instanceMethod yJ0_length_8abf5 ∈ lw_tbl := tbl_1 _ (List.mem_of_getElem? (i := 198) (by decide +kernel))
theorem tb126 : Cond.selects RJ0 yJ0_length_8abf5 yJ0_length_8abf5 ∈ lw_tbl := tbl_1 _ (List.mem_of_getElem? (i := 199) (by decide +kernel))
theorem tb127 : Cond.initialized RJ0 ∈ lw_tbl := tbl_1 _ (List.mem_of_getElem? (i := 8) (by decide +kernel))
theorem tb128 : Cond.code yJ0_length_8abf5 cJ0_length_8abf5 1 (some .int) ∈ lw_tbl := tbl_1 _ (List.mem_of_getElem? (i := 200) (by decide +kernel))
theorem tb129 : Cond.fieldLink RJ0 9 "java/lang/String" "value" "[B" ∈ lw_tbl := tbl_6 _ (List.mem_of_getElem? (i := 119) (by decide +kernel))
theorem tb130 : Cond.methodLink RJ0 335 yJ0_coder_7d493 ∈ lw_tbl := tbl_1 _ (List.mem_of_getElem? (i := 201) (by decide +kernel))
theorem tb131 : Cond.instanceMethod yJ0_coder_7d493 ∈ lw_tbl := tbl_1 _ (List.mem_of_getElem? (i := 202) (by decide +kernel))
theorem tb132 : Cond.selects RJ0 yJ0_coder_7d493 yJ0_coder_7d493 ∈ lw_tbl := tbl_1 _ (List.mem_of_getElem? (i := 203) (by decide +kernel))
theorem tb133 : Cond.code yJ0_coder_7d493 cJ0_coder_7d493 1 (some .byte) ∈ lw_tbl := tbl_1 _ (List.mem_of_getElem? (i := 204) (by decide +kernel))
theorem tb134 : Cond.fieldLink RJ0 38 "java/lang/String" "COMPACT_STRINGS" "Z" ∈ lw_tbl := tbl_1 _ (List.mem_of_getElem? (i := 205) (by decide +kernel))
theorem tb135 : Cond.fieldLink RJ0 15 "java/lang/String" "coder" "B" ∈ lw_tbl := tbl_6 _ (List.mem_of_getElem? (i := 120) (by decide +kernel))
theorem tb136 : Cond.methodLink RX6 91 yJ0_charAt_5068e ∈ lw_tbl := tbl_1 _ (List.mem_of_getElem? (i := 207) (by decide +kernel))
theorem tb137 : Cond.instanceMethod yJ0_charAt_5068e ∈ lw_tbl := tbl_1 _ (List.mem_of_getElem? (i := 208) (by decide +kernel))
theorem tb138 : Cond.selects RJ0 yJ0_charAt_5068e yJ0_charAt_5068e ∈ lw_tbl := tbl_1 _ (List.mem_of_getElem? (i := 209) (by decide +kernel))
theorem tb139 : Cond.code yJ0_charAt_5068e cJ0_charAt_5068e 2 (some .char) ∈ lw_tbl := tbl_1 _ (List.mem_of_getElem? (i := 210) (by decide +kernel))
theorem tb140 : Cond.methodLink RJ0 492 yJ0_isLatin1_aae02 ∈ lw_tbl := tbl_1 _ (List.mem_of_getElem? (i := 211) (by decide +kernel))
theorem tb141 : Cond.instanceMethod yJ0_isLatin1_aae02 ∈ lw_tbl := tbl_1 _ (List.mem_of_getElem? (i := 212) (by decide +kernel))
theorem tb142 : Cond.selects RJ0 yJ0_isLatin1_aae02 yJ0_isLatin1_aae02 ∈ lw_tbl := tbl_1 _ (List.mem_of_getElem? (i := 213) (by decide +kernel))
theorem tb143 : Cond.code yJ0_isLatin1_aae02 cJ0_isLatin1_aae02 1 (some .boolean) ∈ lw_tbl := tbl_1 _ (List.mem_of_getElem? (i := 214) (by decide +kernel))
theorem tb144 : Cond.methodLink RJ0 495 yJ1_charAt_3b067 ∈ lw_tbl := tbl_1 _ (List.mem_of_getElem? (i := 215) (by decide +kernel))
theorem tb145 : Cond.static yJ1_charAt_3b067 ∈ lw_tbl := tbl_1 _ (List.mem_of_getElem? (i := 216) (by decide +kernel))
theorem tb146 : Cond.initialized RJ1 ∈ lw_tbl := tbl_1 _ (List.mem_of_getElem? (i := 9) (by decide +kernel))
theorem tb147 : Cond.code yJ1_charAt_3b067 cJ1_charAt_3b067 2 (some .char) ∈ lw_tbl := tbl_1 _ (List.mem_of_getElem? (i := 217) (by decide +kernel))
theorem tb148 : Cond.methodLink RJ1 9 yJ0_checkIndex_df160 ∈ lw_tbl := tbl_1 _ (List.mem_of_getElem? (i := 218) (by decide +kernel))
theorem tb149 : Cond.static yJ0_checkIndex_df160 ∈ lw_tbl := tbl_1 _ (List.mem_of_getElem? (i := 219) (by decide +kernel))
theorem tb150 : Cond.code yJ0_checkIndex_df160 cJ0_checkIndex_df160 2 none ∈ lw_tbl := tbl_1 _ (List.mem_of_getElem? (i := 220) (by decide +kernel))
theorem tb151 : Cond.fieldLink RJ0 1053 "jdk/internal/util/Preconditions" "SIOOBE_FORMATTER" "Ljava/util/function/BiFunction;" ∈ lw_tbl := tbl_1 _ (List.mem_of_getElem? (i := 221) (by decide +kernel))
theorem tb152 : Cond.methodLink RJ0 1059 yJ3_checkIndex_8e157 ∈ lw_tbl := tbl_1 _ (List.mem_of_getElem? (i := 223) (by decide +kernel))
theorem tb153 : Cond.static yJ3_checkIndex_8e157 ∈ lw_tbl := tbl_1 _ (List.mem_of_getElem? (i := 224) (by decide +kernel))
theorem tb154 : Cond.initialized RJ3 ∈ lw_tbl := tbl_1 _ (List.mem_of_getElem? (i := 10) (by decide +kernel))
theorem tb155 : Cond.code yJ3_checkIndex_8e157 cJ3_checkIndex_8e157 3 (some .int) ∈ lw_tbl := tbl_1 _ (List.mem_of_getElem? (i := 225) (by decide +kernel))
theorem tb156 : Cond.methodLink RJ0 498 yJ2_charAt_3b067 ∈ lw_tbl := tbl_1 _ (List.mem_of_getElem? (i := 226) (by decide +kernel))
theorem tb157 : Cond.static yJ2_charAt_3b067 ∈ lw_tbl := tbl_1 _ (List.mem_of_getElem? (i := 227) (by decide +kernel))
theorem tb158 : Cond.initialized RJ2 ∈ lw_tbl := tbl_1 _ (List.mem_of_getElem? (i := 11) (by decide +kernel))
theorem tb159 : Cond.code yJ2_charAt_3b067 cJ2_charAt_3b067 2 (some .char) ∈ lw_tbl := tbl_1 _ (List.mem_of_getElem? (i := 228) (by decide +kernel))
theorem tb160 : Cond.methodLink RJ2 67 yJ2_checkIndex_2214a ∈ lw_tbl := tbl_1 _ (List.mem_of_getElem? (i := 229) (by decide +kernel))
theorem tb161 : Cond.static yJ2_checkIndex_2214a ∈ lw_tbl := tbl_1 _ (List.mem_of_getElem? (i := 230) (by decide +kernel))
theorem tb162 : Cond.code yJ2_checkIndex_2214a cJ2_checkIndex_2214a 2 none ∈ lw_tbl := tbl_1 _ (List.mem_of_getElem? (i := 231) (by decide +kernel))
theorem tb163 : Cond.methodLink RJ2 48 yJ2_length_9d52b ∈ lw_tbl := tbl_1 _ (List.mem_of_getElem? (i := 232) (by decide +kernel))
theorem tb164 : Cond.static yJ2_length_9d52b ∈ lw_tbl := tbl_1 _ (List.mem_of_getElem? (i := 233) (by decide +kernel))
theorem tb165 : Cond.code yJ2_length_9d52b cJ2_length_9d52b 1 (some .int) ∈ lw_tbl := tbl_1 _ (List.mem_of_getElem? (i := 234) (by decide +kernel))
theorem tb166 : Cond.methodLink RJ2 414 yJ0_checkIndex_df160 ∈ lw_tbl := tbl_1 _ (List.mem_of_getElem? (i := 235) (by decide +kernel))
theorem tb167 : Cond.methodLink RJ2 71 yJ2_getChar_3b067 ∈ lw_tbl := tbl_1 _ (List.mem_of_getElem? (i := 236) (by decide +kernel))
theorem tb168 : Cond.static yJ2_getChar_3b067 ∈ lw_tbl := tbl_1 _ (List.mem_of_getElem? (i := 237) (by decide +kernel))
theorem tb169 : Cond.code yJ2_getChar_3b067 cJ2_getChar_3b067 2 (some .char) ∈ lw_tbl := tbl_1 _ (List.mem_of_getElem? (i := 238) (by decide +kernel))
theorem tb170 : Cond.fieldLink RJ2 44 "java/lang/StringUTF16" "$assertionsDisabled" "Z" ∈ lw_tbl := tbl_1 _ (List.mem_of_getElem? (i := 239) (by decide +kernel))
theorem tb171 : Cond.fieldLink RJ2 59 "java/lang/StringUTF16" "HI_BYTE_SHIFT" "I" ∈ lw_tbl := tbl_2 _ (List.mem_of_getElem? (i := 1) (by decide +kernel))
theorem tb172 : Cond.fieldLink RJ2 63 "java/lang/StringUTF16" "LO_BYTE_SHIFT" "I" ∈ lw_tbl := tbl_2 _ (List.mem_of_getElem? (i := 3) (by decide +kernel))
theorem tb173 : Cond.methodLink RX6 36 yX6_expect ∈ lw_tbl := tbl_2 _ (List.mem_of_getElem? (i := 5) (by decide +kernel))
theorem tb174 : Cond.static yX6_expect ∈ lw_tbl := tbl_2 _ (List.mem_of_getElem? (i := 6) (by decide +kernel))
theorem tb175 : Cond.code yX6_expect cX6_expect 3 (some .int) ∈ lw_tbl := tbl_2 _ (List.mem_of_getElem? (i := 7) (by decide +kernel))
theorem tb176 : Cond.methodLink RX6 32 yX6_stuck ∈ lw_tbl := tbl_2 _ (List.mem_of_getElem? (i := 8) (by decide +kernel))
theorem tb177 : Cond.static yX6_stuck ∈ lw_tbl := tbl_2 _ (List.mem_of_getElem? (i := 9) (by decide +kernel))
theorem tb178 : Cond.code yX6_stuck cX6_stuck 1 (some .int) ∈ lw_tbl := tbl_2 _ (List.mem_of_getElem? (i := 10) (by decide +kernel))
theorem tb179 : Cond.methodLink RX6 59 yX6_digits ∈ lw_tbl := tbl_2 _ (List.mem_of_getElem? (i := 11) (by decide +kernel))
theorem tb180 : Cond.static yX6_digits ∈ lw_tbl := tbl_2 _ (List.mem_of_getElem? (i := 12) (by decide +kernel))
theorem tb181 : Cond.code yX6_digits cX6_digits 2 (some .int) ∈ lw_tbl := tbl_2 _ (List.mem_of_getElem? (i := 13) (by decide +kernel))
theorem tb182 : Cond.methodLink RX6 95 yX6_isFigure ∈ lw_tbl := tbl_2 _ (List.mem_of_getElem? (i := 14) (by decide +kernel))
theorem tb183 : Cond.static yX6_isFigure ∈ lw_tbl := tbl_2 _ (List.mem_of_getElem? (i := 15) (by decide +kernel))
theorem tb184 : Cond.code yX6_isFigure cX6_isFigure 1 (some .boolean) ∈ lw_tbl := tbl_2 _ (List.mem_of_getElem? (i := 16) (by decide +kernel))
theorem tb185 : Cond.methodLink RX6 62 yX6_valueOf ∈ lw_tbl := tbl_2 _ (List.mem_of_getElem? (i := 17) (by decide +kernel))
theorem tb186 : Cond.static yX6_valueOf ∈ lw_tbl := tbl_2 _ (List.mem_of_getElem? (i := 18) (by decide +kernel))
theorem tb187 : Cond.code yX6_valueOf cX6_valueOf 5 (some .int) ∈ lw_tbl := tbl_2 _ (List.mem_of_getElem? (i := 19) (by decide +kernel))
theorem tb188 : Cond.methodLink RX6 53 yX6_sees ∈ lw_tbl := tbl_2 _ (List.mem_of_getElem? (i := 26) (by decide +kernel))
theorem tb189 : Cond.instanceMethod yX6_sees ∈ lw_tbl := tbl_2 _ (List.mem_of_getElem? (i := 28) (by decide +kernel))
theorem tb190 : Cond.selects RX6 yX6_sees yX6_sees ∈ lw_tbl := tbp_1 (yX6_sees, 5) (List.mem_of_getElem? (i := 2) (by decide +kernel))
theorem tb191 : Cond.code yX6_sees cX6_sees 6 (some .int) ∈ lw_tbl := tbl_2 _ (List.mem_of_getElem? (i := 29) (by decide +kernel))
theorem tb192 : Cond.methodLink RX6 79 yX6_either ∈ lw_tbl := tbl_2 _ (List.mem_of_getElem? (i := 31) (by decide +kernel))
theorem tb193 : Cond.instanceMethod yX6_either ∈ lw_tbl := tbl_2 _ (List.mem_of_getElem? (i := 33) (by decide +kernel))
theorem tb194 : Cond.selects RX6 yX6_either yX6_either ∈ lw_tbl := tbp_1 (yX6_either, 5) (List.mem_of_getElem? (i := 3) (by decide +kernel))
theorem tb195 : Cond.code yX6_either cX6_either 6 (some .int) ∈ lw_tbl := tbl_2 _ (List.mem_of_getElem? (i := 34) (by decide +kernel))
theorem tb196 : Cond.methodLink RX6 99 yX6_both ∈ lw_tbl := tbl_2 _ (List.mem_of_getElem? (i := 35) (by decide +kernel))
theorem tb197 : Cond.instanceMethod yX6_both ∈ lw_tbl := tbl_2 _ (List.mem_of_getElem? (i := 37) (by decide +kernel))
theorem tb198 : Cond.selects RX6 yX6_both yX6_both ∈ lw_tbl := tbp_1 (yX6_both, 5) (List.mem_of_getElem? (i := 4) (by decide +kernel))
theorem tb199 : Cond.methodLink RX6 82 yX6_put ∈ lw_tbl := tbl_2 _ (List.mem_of_getElem? (i := 107) (by decide +kernel))
theorem tb200 : Cond.instanceMethod yX6_put ∈ lw_tbl := tbl_2 _ (List.mem_of_getElem? (i := 109) (by decide +kernel))
theorem tb201 : Cond.selects RX6 yX6_put yX6_put ∈ lw_tbl := tbp_1 (yX6_put, 5) (List.mem_of_getElem? (i := 7) (by decide +kernel))
theorem tb202 : Cond.code yX6_put cX6_put 2 none ∈ lw_tbl := tbl_2 _ (List.mem_of_getElem? (i := 110) (by decide +kernel))
theorem tb203 : Cond.fieldLink RX6 119 "TwoPens$School" "size" "I" ∈ lw_tbl := tbl_1 _ (List.mem_of_getElem? (i := 52) (by decide +kernel))
theorem tb204 : Cond.code yX6_both cX6_both 6 (some .int) ∈ lw_tbl := tbl_2 _ (List.mem_of_getElem? (i := 38) (by decide +kernel))
theorem tb205 : Cond.methodLink RX6 102 yX6_single ∈ lw_tbl := tbl_2 _ (List.mem_of_getElem? (i := 39) (by decide +kernel))
theorem tb206 : Cond.instanceMethod yX6_single ∈ lw_tbl := tbl_2 _ (List.mem_of_getElem? (i := 41) (by decide +kernel))
theorem tb207 : Cond.selects RX6 yX6_single yX6_single ∈ lw_tbl := tbp_1 (yX6_single, 5) (List.mem_of_getElem? (i := 5) (by decide +kernel))
theorem tb208 : Cond.code yX6_single cX6_single 6 (some .int) ∈ lw_tbl := tbl_2 _ (List.mem_of_getElem? (i := 42) (by decide +kernel))
theorem tb209 : Cond.methodLink RX6 105 yX6_test ∈ lw_tbl := tbl_2 _ (List.mem_of_getElem? (i := 43) (by decide +kernel))
theorem tb210 : Cond.instanceMethod yX6_test ∈ lw_tbl := tbl_2 _ (List.mem_of_getElem? (i := 45) (by decide +kernel))
theorem tb211 : Cond.selects RX6 yX6_test yX6_test ∈ lw_tbl := tbp_1 (yX6_test, 5) (List.mem_of_getElem? (i := 6) (by decide +kernel))
theorem tb212 : Cond.code yX6_test cX6_test 6 (some .int) ∈ lw_tbl := tbl_2 _ (List.mem_of_getElem? (i := 46) (by decide +kernel))
theorem tb213 : Cond.methodLink RX6 110 yX6_placeIn ∈ lw_tbl := tbl_2 _ (List.mem_of_getElem? (i := 48) (by decide +kernel))
theorem tb214 : Cond.static yX6_placeIn ∈ lw_tbl := tbl_2 _ (List.mem_of_getElem? (i := 49) (by decide +kernel))
theorem tb215 : Cond.code yX6_placeIn cX6_placeIn 2 (some .int) ∈ lw_tbl := tbl_2 _ (List.mem_of_getElem? (i := 50) (by decide +kernel))
theorem tb216 : Cond.methodLink RX6 116 yJ0_indexOf_0f7a4 ∈ lw_tbl := tbl_2 _ (List.mem_of_getElem? (i := 51) (by decide +kernel))
theorem tb217 : Cond.instanceMethod yJ0_indexOf_0f7a4 ∈ lw_tbl := tbl_2 _ (List.mem_of_getElem? (i := 52) (by decide +kernel))
theorem tb218 : Cond.selects RJ0 yJ0_indexOf_0f7a4 yJ0_indexOf_0f7a4 ∈ lw_tbl := tbl_2 _ (List.mem_of_getElem? (i := 53) (by decide +kernel))
theorem tb219 : Cond.code yJ0_indexOf_0f7a4 cJ0_indexOf_0f7a4 2 (some .int) ∈ lw_tbl := tbl_2 _ (List.mem_of_getElem? (i := 54) (by decide +kernel))
theorem tb220 : Cond.methodLink RJ0 633 yJ0_indexOf_7cf53 ∈ lw_tbl := tbl_2 _ (List.mem_of_getElem? (i := 55) (by decide +kernel))
theorem tb221 : Cond.instanceMethod yJ0_indexOf_7cf53 ∈ lw_tbl := tbl_2 _ (List.mem_of_getElem? (i := 56) (by decide +kernel))
theorem tb222 : Cond.selects RJ0 yJ0_indexOf_7cf53 yJ0_indexOf_7cf53 ∈ lw_tbl := tbl_2 _ (List.mem_of_getElem? (i := 57) (by decide +kernel))
theorem tb223 : Cond.code yJ0_indexOf_7cf53 cJ0_indexOf_7cf53 3 (some .int) ∈ lw_tbl := tbl_2 _ (List.mem_of_getElem? (i := 58) (by decide +kernel))
theorem tb224 : Cond.methodLink RJ0 505 yJ0_length_8abf5 ∈ lw_tbl := tbl_2 _ (List.mem_of_getElem? (i := 59) (by decide +kernel))
theorem tb225 : Cond.methodLink RJ0 637 yJ1_indexOf_4cfef ∈ lw_tbl := tbl_2 _ (List.mem_of_getElem? (i := 60) (by decide +kernel))
theorem tb226 : Cond.static yJ1_indexOf_4cfef ∈ lw_tbl := tbl_2 _ (List.mem_of_getElem? (i := 61) (by decide +kernel))
theorem tb227 : Cond.code yJ1_indexOf_4cfef cJ1_indexOf_4cfef 4 (some .int) ∈ lw_tbl := tbl_2 _ (List.mem_of_getElem? (i := 62) (by decide +kernel))
theorem tb228 : Cond.methodLink RJ1 92 Lib.Math.max.name ∈ lw_tbl := tbl_2 _ (List.mem_of_getElem? (i := 66) (by decide +kernel))
theorem tb229 : Cond.methodLink RJ1 38 Lib.Math.min.name ∈ lw_tbl := tbl_2 _ (List.mem_of_getElem? (i := 67) (by decide +kernel))
theorem tb230 : Cond.methodLink RJ1 88 yJ1_canEncode_9a6ad ∈ lw_tbl := tbl_2 _ (List.mem_of_getElem? (i := 63) (by decide +kernel))
theorem tb231 : Cond.static yJ1_canEncode_9a6ad ∈ lw_tbl := tbl_2 _ (List.mem_of_getElem? (i := 64) (by decide +kernel))
theorem tb232 : Cond.code yJ1_canEncode_9a6ad cJ1_canEncode_9a6ad 1 (some .boolean) ∈ lw_tbl := tbl_2 _ (List.mem_of_getElem? (i := 65) (by decide +kernel))
theorem tb233 : Cond.methodLink RJ1 95 yJ1_indexOfChar_4cfef ∈ lw_tbl := tbl_2 _ (List.mem_of_getElem? (i := 68) (by decide +kernel))
theorem tb234 : Cond.static yJ1_indexOfChar_4cfef ∈ lw_tbl := tbl_2 _ (List.mem_of_getElem? (i := 69) (by decide +kernel))
theorem tb235 : Cond.code yJ1_indexOfChar_4cfef cJ1_indexOfChar_4cfef 6 (some .int) ∈ lw_tbl := tbl_2 _ (List.mem_of_getElem? (i := 70) (by decide +kernel))
theorem tb236 : Cond.methodLink RJ0 640 yJ2_indexOf_4cfef ∈ lw_tbl := tbl_2 _ (List.mem_of_getElem? (i := 71) (by decide +kernel))
theorem tb237 : Cond.static yJ2_indexOf_4cfef ∈ lw_tbl := tbl_2 _ (List.mem_of_getElem? (i := 72) (by decide +kernel))
theorem tb238 : Cond.code yJ2_indexOf_4cfef cJ2_indexOf_4cfef 4 (some .int) ∈ lw_tbl := tbl_2 _ (List.mem_of_getElem? (i := 73) (by decide +kernel))
theorem tb239 : Cond.methodLink RJ2 224 Lib.Math.max.name ∈ lw_tbl := tbl_2 _ (List.mem_of_getElem? (i := 74) (by decide +kernel))
theorem tb240 : Cond.methodLink RJ2 183 Lib.Math.min.name ∈ lw_tbl := tbl_2 _ (List.mem_of_getElem? (i := 75) (by decide +kernel))
theorem tb241 : Cond.constant RJ2 227 (65536) ∈ lw_tbl := tbl_2 _ (List.mem_of_getElem? (i := 76) (by decide +kernel))
theorem tb242 : Cond.methodLink RJ2 228 yJ2_indexOfChar_4cfef ∈ lw_tbl := tbl_2 _ (List.mem_of_getElem? (i := 77) (by decide +kernel))
theorem tb243 : Cond.static yJ2_indexOfChar_4cfef ∈ lw_tbl := tbl_2 _ (List.mem_of_getElem? (i := 78) (by decide +kernel))
theorem tb244 : Cond.code yJ2_indexOfChar_4cfef cJ2_indexOfChar_4cfef 4 (some .int) ∈ lw_tbl := tbl_2 _ (List.mem_of_getElem? (i := 79) (by decide +kernel))
theorem tb245 : Cond.methodLink RJ2 96 yJ2_checkBoundsBeginEnd_d044e ∈ lw_tbl := tbl_2 _ (List.mem_of_getElem? (i := 80) (by decide +kernel))
theorem tb246 : Cond.static yJ2_checkBoundsBeginEnd_d044e ∈ lw_tbl := tbl_2 _ (List.mem_of_getElem? (i := 81) (by decide +kernel))
theorem tb247 : Cond.code yJ2_checkBoundsBeginEnd_d044e cJ2_checkBoundsBeginEnd_d044e 3 none ∈ lw_tbl := tbl_2 _ (List.mem_of_getElem? (i := 82) (by decide +kernel))
theorem tb248 : Cond.methodLink RJ2 241 yJ0_checkBoundsBeginEnd_23922 ∈ lw_tbl := tbl_2 _ (List.mem_of_getElem? (i := 83) (by decide +kernel))
theorem tb249 : Cond.static yJ0_checkBoundsBeginEnd_23922 ∈ lw_tbl := tbl_2 _ (List.mem_of_getElem? (i := 84) (by decide +kernel))
theorem tb250 : Cond.code yJ0_checkBoundsBeginEnd_23922 cJ0_checkBoundsBeginEnd_23922 3 none ∈ lw_tbl := tbl_2 _ (List.mem_of_getElem? (i := 85) (by decide +kernel))
theorem tb251 : Cond.methodLink RJ0 1062 yJ3_checkFromToIndex_8c36e ∈ lw_tbl := tbl_2 _ (List.mem_of_getElem? (i := 86) (by decide +kernel))
theorem tb252 : Cond.static yJ3_checkFromToIndex_8c36e ∈ lw_tbl := tbl_2 _ (List.mem_of_getElem? (i := 87) (by decide +kernel))
theorem tb253 : Cond.code yJ3_checkFromToIndex_8c36e cJ3_checkFromToIndex_8c36e 4 (some .int) ∈ lw_tbl := tbl_2 _ (List.mem_of_getElem? (i := 88) (by decide +kernel))
theorem tb254 : Cond.methodLink RJ2 244 yJ2_indexOfCharUnsafe_4cfef ∈ lw_tbl := tbl_2 _ (List.mem_of_getElem? (i := 89) (by decide +kernel))
theorem tb255 : Cond.static yJ2_indexOfCharUnsafe_4cfef ∈ lw_tbl := tbl_2 _ (List.mem_of_getElem? (i := 90) (by decide +kernel))
theorem tb256 : Cond.code yJ2_indexOfCharUnsafe_4cfef cJ2_indexOfCharUnsafe_4cfef 5 (some .int) ∈ lw_tbl := tbl_2 _ (List.mem_of_getElem? (i := 91) (by decide +kernel))
theorem tb257 : Cond.methodLink RJ2 232 yJ2_indexOfSupplementary_4cfef ∈ lw_tbl := tbl_2 _ (List.mem_of_getElem? (i := 92) (by decide +kernel))
theorem tb258 : Cond.static yJ2_indexOfSupplementary_4cfef ∈ lw_tbl := tbl_2 _ (List.mem_of_getElem? (i := 93) (by decide +kernel))
theorem tb259 : Cond.code yJ2_indexOfSupplementary_4cfef cJ2_indexOfSupplementary_4cfef 7 (some .int) ∈ lw_tbl := tbl_2 _ (List.mem_of_getElem? (i := 94) (by decide +kernel))
theorem tb260 : Cond.methodLink RJ2 164 yJ11_isValidCodePoint_9a6ad ∈ lw_tbl := tbl_2 _ (List.mem_of_getElem? (i := 95) (by decide +kernel))
theorem tb261 : Cond.static yJ11_isValidCodePoint_9a6ad ∈ lw_tbl := tbl_2 _ (List.mem_of_getElem? (i := 96) (by decide +kernel))
theorem tb262 : Cond.initialized RJ11 ∈ lw_tbl := tbl_1 _ (List.mem_of_getElem? (i := 12) (by decide +kernel))
theorem tb263 : Cond.code yJ11_isValidCodePoint_9a6ad cJ11_isValidCodePoint_9a6ad 2 (some .boolean) ∈ lw_tbl := tbl_2 _ (List.mem_of_getElem? (i := 97) (by decide +kernel))
theorem tb264 : Cond.methodLink RJ2 157 yJ11_highSurrogate_5068e ∈ lw_tbl := tbl_2 _ (List.mem_of_getElem? (i := 98) (by decide +kernel))
theorem tb265 : Cond.static yJ11_highSurrogate_5068e ∈ lw_tbl := tbl_2 _ (List.mem_of_getElem? (i := 99) (by decide +kernel))
theorem tb266 : Cond.code yJ11_highSurrogate_5068e cJ11_highSurrogate_5068e 1 (some .char) ∈ lw_tbl := tbl_2 _ (List.mem_of_getElem? (i := 100) (by decide +kernel))
theorem tb267 : Cond.constant RJ11 110 (55232) ∈ lw_tbl := tbl_2 _ (List.mem_of_getElem? (i := 101) (by decide +kernel))
theorem tb268 : Cond.methodLink RJ2 161 yJ11_lowSurrogate_5068e ∈ lw_tbl := tbl_2 _ (List.mem_of_getElem? (i := 102) (by decide +kernel))
theorem tb269 : Cond.static yJ11_lowSurrogate_5068e ∈ lw_tbl := tbl_2 _ (List.mem_of_getElem? (i := 103) (by decide +kernel))
theorem tb270 : Cond.code yJ11_lowSurrogate_5068e cJ11_lowSurrogate_5068e 1 (some .char) ∈ lw_tbl := tbl_2 _ (List.mem_of_getElem? (i := 104) (by decide +kernel))
theorem tb271 : Cond.constant RJ11 76 (56320) ∈ lw_tbl := tbl_2 _ (List.mem_of_getElem? (i := 105) (by decide +kernel))
theorem tb272 : Cond.methodLink RX6 26 yX5_size ∈ lw_tbl := tbl_2 _ (List.mem_of_getElem? (i := 111) (by decide +kernel))
theorem tb273 : Cond.methodLink RX11 53 yX5_clear ∈ lw_tbl := tbl_2 _ (List.mem_of_getElem? (i := 112) (by decide +kernel))
theorem tb274 : Cond.instanceMethod yX5_clear ∈ lw_tbl := tbl_2 _ (List.mem_of_getElem? (i := 113) (by decide +kernel))
theorem tb275 : Cond.selects RX5 yX5_clear yX5_clear ∈ lw_tbl := tbl_2 _ (List.mem_of_getElem? (i := 114) (by decide +kernel))
theorem tb276 : Cond.code yX5_clear cX5_clear 1 none ∈ lw_tbl := tbl_2 _ (List.mem_of_getElem? (i := 115) (by decide +kernel))
theorem tb277 : Cond.methodLink RL 22 yX12_school ∈ lw_tbl := tbl_5 _ (List.mem_of_getElem? (i := 32) (by decide +kernel))
theorem tb278 : Cond.instanceMethod yX12_school ∈ lw_tbl := tbl_5 _ (List.mem_of_getElem? (i := 33) (by decide +kernel))
theorem tb279 : Cond.selects RX12 yX12_school yX12_school ∈ lw_tbl := tbl_5 _ (List.mem_of_getElem? (i := 34) (by decide +kernel))
theorem tb280 : Cond.code yX12_school cX12_school 2 (some .int) ∈ lw_tbl := tbl_5 _ (List.mem_of_getElem? (i := 35) (by decide +kernel))
theorem tb281 : Cond.fieldLink RX12 69 "TwoPensModel" "act" "I" ∈ lw_tbl := tbl_4 _ (List.mem_of_getElem? (i := 195) (by decide +kernel))
theorem tb282 : Cond.fieldLink RX12 45 "TwoPensModel" "end" "I" ∈ lw_tbl := tbl_4 _ (List.mem_of_getElem? (i := 197) (by decide +kernel))
theorem tb283 : Cond.fieldLink RX12 42 "TwoPensModel" "spot" "I" ∈ lw_tbl := tbl_4 _ (List.mem_of_getElem? (i := 196) (by decide +kernel))
theorem tb284 : Cond.fieldLink RX12 48 "TwoPensModel" "isWrong" "Z" ∈ lw_tbl := tbl_4 _ (List.mem_of_getElem? (i := 198) (by decide +kernel))
theorem tb285 : Cond.fieldLink RX12 72 "TwoPensModel" "open" "I" ∈ lw_tbl := tbl_4 _ (List.mem_of_getElem? (i := 199) (by decide +kernel))
theorem tb286 : Cond.methodLink RX12 114 yX12_clauseHere ∈ lw_tbl := tbl_5 _ (List.mem_of_getElem? (i := 36) (by decide +kernel))
theorem tb287 : Cond.instanceMethod yX12_clauseHere ∈ lw_tbl := tbl_5 _ (List.mem_of_getElem? (i := 38) (by decide +kernel))
theorem tb288 : Cond.selects RX12 yX12_clauseHere yX12_clauseHere ∈ lw_tbl := tbp_2 (yX12_clauseHere, 24) (List.mem_of_getElem? (i := 0) (by decide +kernel))
theorem tb289 : Cond.code yX12_clauseHere cX12_clauseHere 2 none ∈ lw_tbl := tbl_5 _ (List.mem_of_getElem? (i := 39) (by decide +kernel))
theorem tb290 : Cond.methodLink RX12 52 yX12_here ∈ lw_tbl := tbl_5 _ (List.mem_of_getElem? (i := 40) (by decide +kernel))
theorem tb291 : Cond.instanceMethod yX12_here ∈ lw_tbl := tbl_5 _ (List.mem_of_getElem? (i := 42) (by decide +kernel))
theorem tb292 : Cond.selects RX12 yX12_here yX12_here ∈ lw_tbl := tbp_2 (yX12_here, 24) (List.mem_of_getElem? (i := 1) (by decide +kernel))
theorem tb293 : Cond.code yX12_here cX12_here 1 (some .int) ∈ lw_tbl := tbl_5 _ (List.mem_of_getElem? (i := 43) (by decide +kernel))
theorem tb294 : Cond.methodLink RX12 104 yX12_tellsHere ∈ lw_tbl := tbl_5 _ (List.mem_of_getElem? (i := 45) (by decide +kernel))
theorem tb295 : Cond.instanceMethod yX12_tellsHere ∈ lw_tbl := tbl_5 _ (List.mem_of_getElem? (i := 47) (by decide +kernel))
theorem tb296 : Cond.selects RX12 yX12_tellsHere yX12_tellsHere ∈ lw_tbl := tbp_2 (yX12_tellsHere, 24) (List.mem_of_getElem? (i := 2) (by decide +kernel))
theorem tb297 : Cond.code yX12_tellsHere cX12_tellsHere 4 none ∈ lw_tbl := tbl_5 _ (List.mem_of_getElem? (i := 48) (by decide +kernel))
theorem tb298 : Cond.methodLink RX12 98 yX12_spells ∈ lw_tbl := tbl_5 _ (List.mem_of_getElem? (i := 49) (by decide +kernel))
theorem tb299 : Cond.instanceMethod yX12_spells ∈ lw_tbl := tbl_5 _ (List.mem_of_getElem? (i := 51) (by decide +kernel))
theorem tb300 : Cond.selects RX12 yX12_spells yX12_spells ∈ lw_tbl := tbp_2 (yX12_spells, 24) (List.mem_of_getElem? (i := 3) (by decide +kernel))
theorem tb301 : Cond.code yX12_spells cX12_spells 3 none ∈ lw_tbl := tbl_5 _ (List.mem_of_getElem? (i := 52) (by decide +kernel))
theorem tb302 : Cond.methodLink RX12 56 yJ0_length_8abf5 ∈ lw_tbl := tbl_5 _ (List.mem_of_getElem? (i := 53) (by decide +kernel))
theorem tb303 : Cond.methodLink RX12 61 yJ0_charAt_5068e ∈ lw_tbl := tbl_5 _ (List.mem_of_getElem? (i := 54) (by decide +kernel))
theorem tb304 : Cond.methodLink RX12 65 yX12_must ∈ lw_tbl := tbl_5 _ (List.mem_of_getElem? (i := 55) (by decide +kernel))
theorem tb305 : Cond.instanceMethod yX12_must ∈ lw_tbl := tbl_5 _ (List.mem_of_getElem? (i := 57) (by decide +kernel))
theorem tb306 : Cond.selects RX12 yX12_must yX12_must ∈ lw_tbl := tbp_2 (yX12_must, 24) (List.mem_of_getElem? (i := 4) (by decide +kernel))
theorem tb307 : Cond.code yX12_must cX12_must 2 none ∈ lw_tbl := tbl_5 _ (List.mem_of_getElem? (i := 58) (by decide +kernel))
theorem tb308 : Cond.methodLink RX12 92 yX12_figures ∈ lw_tbl := tbl_5 _ (List.mem_of_getElem? (i := 59) (by decide +kernel))
theorem tb309 : Cond.instanceMethod yX12_figures ∈ lw_tbl := tbl_5 _ (List.mem_of_getElem? (i := 61) (by decide +kernel))
theorem tb310 : Cond.selects RX12 yX12_figures yX12_figures ∈ lw_tbl := tbp_2 (yX12_figures, 24) (List.mem_of_getElem? (i := 5) (by decide +kernel))
theorem tb311 : Cond.code yX12_figures cX12_figures 3 (some .int) ∈ lw_tbl := tbl_5 _ (List.mem_of_getElem? (i := 62) (by decide +kernel))
theorem tb312 : Cond.methodLink RX12 81 yX12_some ∈ lw_tbl := tbl_5 _ (List.mem_of_getElem? (i := 66) (by decide +kernel))
theorem tb313 : Cond.instanceMethod yX12_some ∈ lw_tbl := tbl_5 _ (List.mem_of_getElem? (i := 68) (by decide +kernel))
theorem tb314 : Cond.selects RX12 yX12_some yX12_some ∈ lw_tbl := tbp_2 (yX12_some, 24) (List.mem_of_getElem? (i := 6) (by decide +kernel))
theorem tb315 : Cond.code yX12_some cX12_some 1 none ∈ lw_tbl := tbl_5 _ (List.mem_of_getElem? (i := 69) (by decide +kernel))
theorem tb316 : Cond.methodLink RX12 95 yX12_every ∈ lw_tbl := tbl_5 _ (List.mem_of_getElem? (i := 70) (by decide +kernel))
theorem tb317 : Cond.instanceMethod yX12_every ∈ lw_tbl := tbl_5 _ (List.mem_of_getElem? (i := 72) (by decide +kernel))
theorem tb318 : Cond.selects RX12 yX12_every yX12_every ∈ lw_tbl := tbp_2 (yX12_every, 24) (List.mem_of_getElem? (i := 7) (by decide +kernel))
theorem tb319 : Cond.methodLink RX12 78 yX12_emits ∈ lw_tbl := tbl_5 _ (List.mem_of_getElem? (i := 78) (by decide +kernel))
theorem tb320 : Cond.instanceMethod yX12_emits ∈ lw_tbl := tbl_5 _ (List.mem_of_getElem? (i := 80) (by decide +kernel))
theorem tb321 : Cond.selects RX12 yX12_emits yX12_emits ∈ lw_tbl := tbp_2 (yX12_emits, 24) (List.mem_of_getElem? (i := 9) (by decide +kernel))
theorem tb322 : Cond.code yX12_emits cX12_emits 2 none ∈ lw_tbl := tbl_5 _ (List.mem_of_getElem? (i := 81) (by decide +kernel))
theorem tb323 : Cond.code yX12_every cX12_every 1 none ∈ lw_tbl := tbl_5 _ (List.mem_of_getElem? (i := 73) (by decide +kernel))
theorem tb324 : Cond.methodLink RX12 75 yX12_factor ∈ lw_tbl := tbl_5 _ (List.mem_of_getElem? (i := 74) (by decide +kernel))
theorem tb325 : Cond.instanceMethod yX12_factor ∈ lw_tbl := tbl_5 _ (List.mem_of_getElem? (i := 76) (by decide +kernel))
theorem tb326 : Cond.selects RX12 yX12_factor yX12_factor ∈ lw_tbl := tbp_2 (yX12_factor, 24) (List.mem_of_getElem? (i := 8) (by decide +kernel))
theorem tb327 : Cond.code yX12_factor cX12_factor 5 none ∈ lw_tbl := tbl_5 _ (List.mem_of_getElem? (i := 77) (by decide +kernel))
theorem tb328 : Cond.methodLink RX12 86 yX12_among ∈ lw_tbl := tbl_5 _ (List.mem_of_getElem? (i := 83) (by decide +kernel))
theorem tb329 : Cond.instanceMethod yX12_among ∈ lw_tbl := tbl_5 _ (List.mem_of_getElem? (i := 85) (by decide +kernel))
theorem tb330 : Cond.selects RX12 yX12_among yX12_among ∈ lw_tbl := tbp_2 (yX12_among, 24) (List.mem_of_getElem? (i := 10) (by decide +kernel))
theorem tb331 : Cond.code yX12_among cX12_among 3 (some .int) ∈ lw_tbl := tbl_5 _ (List.mem_of_getElem? (i := 86) (by decide +kernel))
theorem tb332 : Cond.methodLink RL 23 yX11_way ∈ lw_tbl := tbl_2 _ (List.mem_of_getElem? (i := 117) (by decide +kernel))
theorem tb333 : Cond.instanceMethod yX11_way ∈ lw_tbl := tbl_2 _ (List.mem_of_getElem? (i := 118) (by decide +kernel))
theorem tb334 : Cond.selects RX11 yX11_way yX11_way ∈ lw_tbl := tbl_2 _ (List.mem_of_getElem? (i := 119) (by decide +kernel))
theorem tb335 : Cond.code yX11_way cX11_way 5 (some .int) ∈ lw_tbl := tbl_2 _ (List.mem_of_getElem? (i := 120) (by decide +kernel))
theorem tb336 : Cond.methodLink RX11 60 yX11_isDigit ∈ lw_tbl := tbl_2 _ (List.mem_of_getElem? (i := 121) (by decide +kernel))
theorem tb337 : Cond.static yX11_isDigit ∈ lw_tbl := tbl_2 _ (List.mem_of_getElem? (i := 122) (by decide +kernel))
theorem tb338 : Cond.code yX11_isDigit cX11_isDigit 1 (some .boolean) ∈ lw_tbl := tbl_2 _ (List.mem_of_getElem? (i := 123) (by decide +kernel))
theorem tb339 : Cond.methodLink RX11 63 yX2_wayCount ∈ lw_tbl := tbl_2 _ (List.mem_of_getElem? (i := 124) (by decide +kernel))
theorem tb340 : Cond.instanceMethod yX2_wayCount ∈ lw_tbl := tbl_2 _ (List.mem_of_getElem? (i := 125) (by decide +kernel))
theorem tb341 : Cond.selects RX2 yX2_wayCount yX2_wayCount ∈ lw_tbl := tbl_2 _ (List.mem_of_getElem? (i := 126) (by decide +kernel))
theorem tb342 : Cond.code yX2_wayCount cX2_wayCount 1 (some .int) ∈ lw_tbl := tbl_2 _ (List.mem_of_getElem? (i := 127) (by decide +kernel))
theorem tb343 : Cond.fieldLink RX2 51 "TwoPens$Desk" "wayCount" "I" ∈ lw_tbl := tbl_1 _ (List.mem_of_getElem? (i := 82) (by decide +kernel))
theorem tb344 : Cond.methodLink RX11 66 yX11_made ∈ lw_tbl := tbl_2 _ (List.mem_of_getElem? (i := 128) (by decide +kernel))
theorem tb345 : Cond.static yX11_made ∈ lw_tbl := tbl_2 _ (List.mem_of_getElem? (i := 129) (by decide +kernel))
theorem tb346 : Cond.code yX11_made cX11_made 4 (some (.object "TwoPens$Line")) ∈ lw_tbl := tbl_2 _ (List.mem_of_getElem? (i := 130) (by decide +kernel))
theorem tb347 : Cond.classLink RX11 270 RX10 ∈ lw_tbl := tbl_2 _ (List.mem_of_getElem? (i := 131) (by decide +kernel))
theorem tb348 : Cond.instantiable RX10 4 ∈ lw_tbl := tbl_2 _ (List.mem_of_getElem? (i := 132) (by decide +kernel))
theorem tb349 : Cond.initialized RX10 ∈ lw_tbl := tbl_1 _ (List.mem_of_getElem? (i := 14) (by decide +kernel))
theorem tb350 : Cond.classLink RX11 275 RX0 ∈ lw_tbl := tbl_2 _ (List.mem_of_getElem? (i := 182) (by decide +kernel))
theorem tb351 : Cond.instantiable RX0 4 ∈ lw_tbl := tbl_2 _ (List.mem_of_getElem? (i := 183) (by decide +kernel))
theorem tb352 : Cond.initialized RX0 ∈ lw_tbl := tbl_1 _ (List.mem_of_getElem? (i := 15) (by decide +kernel))
theorem tb353 : Cond.classLink RX11 278 RX3 ∈ lw_tbl := tbl_2 _ (List.mem_of_getElem? (i := 193) (by decide +kernel))
theorem tb354 : Cond.instantiable RX3 4 ∈ lw_tbl := tbl_2 _ (List.mem_of_getElem? (i := 194) (by decide +kernel))
theorem tb355 : Cond.initialized RX3 ∈ lw_tbl := tbl_1 _ (List.mem_of_getElem? (i := 16) (by decide +kernel))
theorem tb356 : Cond.classLink RX11 281 RX9 ∈ lw_tbl := tbl_2 _ (List.mem_of_getElem? (i := 204) (by decide +kernel))
theorem tb357 : Cond.instantiable RX9 4 ∈ lw_tbl := tbl_2 _ (List.mem_of_getElem? (i := 205) (by decide +kernel))
theorem tb358 : Cond.initialized RX9 ∈ lw_tbl := tbl_1 _ (List.mem_of_getElem? (i := 17) (by decide +kernel))
theorem tb359 : Cond.classLink RX11 286 RX1 ∈ lw_tbl := tbl_2 _ (List.mem_of_getElem? (i := 215) (by decide +kernel))
theorem tb360 : Cond.instantiable RX1 4 ∈ lw_tbl := tbl_2 _ (List.mem_of_getElem? (i := 216) (by decide +kernel))
theorem tb361 : Cond.initialized RX1 ∈ lw_tbl := tbl_1 _ (List.mem_of_getElem? (i := 18) (by decide +kernel))
theorem tb362 : Cond.classLink RX11 96 RX7 ∈ lw_tbl := tbl_2 _ (List.mem_of_getElem? (i := 226) (by decide +kernel))
theorem tb363 : Cond.instantiable RX7 5 ∈ lw_tbl := tbl_2 _ (List.mem_of_getElem? (i := 227) (by decide +kernel))
theorem tb364 : Cond.initialized RX7 ∈ lw_tbl := tbl_1 _ (List.mem_of_getElem? (i := 19) (by decide +kernel))
theorem tb365 : Cond.classLink RX11 79 RX4 ∈ lw_tbl := tbl_3 _ (List.mem_of_getElem? (i := 0) (by decide +kernel))
theorem tb366 : Cond.instantiable RX4 4 ∈ lw_tbl := tbl_3 _ (List.mem_of_getElem? (i := 1) (by decide +kernel))
theorem tb367 : Cond.initialized RX4 ∈ lw_tbl := tbl_1 _ (List.mem_of_getElem? (i := 13) (by decide +kernel))
theorem tb368 : Cond.methodLink RX11 272 yX10_init ∈ lw_tbl := tbl_2 _ (List.mem_of_getElem? (i := 133) (by decide +kernel))
theorem tb369 : Cond.instanceMethod yX10_init ∈ lw_tbl := tbl_2 _ (List.mem_of_getElem? (i := 134) (by decide +kernel))
theorem tb370 : Cond.code yX10_init cX10_init 5 none ∈ lw_tbl := tbl_2 _ (List.mem_of_getElem? (i := 135) (by decide +kernel))
theorem tb371 : Cond.methodLink RX10 1 yX4_init ∈ lw_tbl := tbl_2 _ (List.mem_of_getElem? (i := 136) (by decide +kernel))
theorem tb372 : Cond.instanceMethod yX4_init ∈ lw_tbl := tbl_2 _ (List.mem_of_getElem? (i := 137) (by decide +kernel))
theorem tb373 : Cond.code yX4_init cX4_init 5 none ∈ lw_tbl := tbl_2 _ (List.mem_of_getElem? (i := 138) (by decide +kernel))
theorem tb374 : Cond.methodLink RX4 1 objectInit ∈ lw_tbl := tbl_2 _ (List.mem_of_getElem? (i := 139) (by decide +kernel))
theorem tb375 : Cond.fieldLink RX4 7 "TwoPens$Line" "kind" "I" ∈ lw_tbl := tbl_2 _ (List.mem_of_getElem? (i := 140) (by decide +kernel))
theorem tb376 : Cond.fieldLink RX4 13 "TwoPens$Line" "number" "I" ∈ lw_tbl := tbl_2 _ (List.mem_of_getElem? (i := 143) (by decide +kernel))
theorem tb377 : Cond.fieldLink RX4 16 "TwoPens$Line" "v" "I" ∈ lw_tbl := tbl_2 _ (List.mem_of_getElem? (i := 150) (by decide +kernel))
theorem tb378 : Cond.fieldLink RX4 19 "TwoPens$Line" "slow" "I" ∈ lw_tbl := tbl_2 _ (List.mem_of_getElem? (i := 163) (by decide +kernel))
theorem tb379 : Cond.methodLink RX11 277 yX0_init ∈ lw_tbl := tbl_2 _ (List.mem_of_getElem? (i := 184) (by decide +kernel))
theorem tb380 : Cond.instanceMethod yX0_init ∈ lw_tbl := tbl_2 _ (List.mem_of_getElem? (i := 185) (by decide +kernel))
theorem tb381 : Cond.code yX0_init cX0_init 5 none ∈ lw_tbl := tbl_2 _ (List.mem_of_getElem? (i := 186) (by decide +kernel))
theorem tb382 : Cond.methodLink RX0 1 yX4_init ∈ lw_tbl := tbl_2 _ (List.mem_of_getElem? (i := 187) (by decide +kernel))
theorem tb383 : Cond.methodLink RX11 280 yX3_init ∈ lw_tbl := tbl_2 _ (List.mem_of_getElem? (i := 195) (by decide +kernel))
theorem tb384 : Cond.instanceMethod yX3_init ∈ lw_tbl := tbl_2 _ (List.mem_of_getElem? (i := 196) (by decide +kernel))
theorem tb385 : Cond.code yX3_init cX3_init 5 none ∈ lw_tbl := tbl_2 _ (List.mem_of_getElem? (i := 197) (by decide +kernel))
theorem tb386 : Cond.methodLink RX3 1 yX4_init ∈ lw_tbl := tbl_2 _ (List.mem_of_getElem? (i := 198) (by decide +kernel))
theorem tb387 : Cond.methodLink RX11 283 yX9_init ∈ lw_tbl := tbl_2 _ (List.mem_of_getElem? (i := 206) (by decide +kernel))
theorem tb388 : Cond.instanceMethod yX9_init ∈ lw_tbl := tbl_2 _ (List.mem_of_getElem? (i := 207) (by decide +kernel))
theorem tb389 : Cond.code yX9_init cX9_init 4 none ∈ lw_tbl := tbl_2 _ (List.mem_of_getElem? (i := 208) (by decide +kernel))
theorem tb390 : Cond.methodLink RX9 1 yX10_init ∈ lw_tbl := tbl_2 _ (List.mem_of_getElem? (i := 209) (by decide +kernel))
theorem tb391 : Cond.methodLink RX11 288 yX1_init ∈ lw_tbl := tbl_2 _ (List.mem_of_getElem? (i := 217) (by decide +kernel))
theorem tb392 : Cond.instanceMethod yX1_init ∈ lw_tbl := tbl_2 _ (List.mem_of_getElem? (i := 218) (by decide +kernel))
theorem tb393 : Cond.code yX1_init cX1_init 4 none ∈ lw_tbl := tbl_2 _ (List.mem_of_getElem? (i := 219) (by decide +kernel))
theorem tb394 : Cond.methodLink RX1 1 yX0_init ∈ lw_tbl := tbl_2 _ (List.mem_of_getElem? (i := 220) (by decide +kernel))
theorem tb395 : Cond.methodLink RX11 289 yX7_init ∈ lw_tbl := tbl_2 _ (List.mem_of_getElem? (i := 228) (by decide +kernel))
theorem tb396 : Cond.instanceMethod yX7_init ∈ lw_tbl := tbl_2 _ (List.mem_of_getElem? (i := 229) (by decide +kernel))
theorem tb397 : Cond.code yX7_init cX7_init 5 none ∈ lw_tbl := tbl_2 _ (List.mem_of_getElem? (i := 230) (by decide +kernel))
theorem tb398 : Cond.fieldLink RX7 7 "TwoPens$Told" "row" "[I" ∈ lw_tbl := tbl_2 _ (List.mem_of_getElem? (i := 232) (by decide +kernel))
theorem tb399 : Cond.methodLink RX7 1 yX3_init ∈ lw_tbl := tbl_2 _ (List.mem_of_getElem? (i := 231) (by decide +kernel))
theorem tb400 : Cond.methodLink RX11 292 yX4_init ∈ lw_tbl := tbl_3 _ (List.mem_of_getElem? (i := 2) (by decide +kernel))
theorem tb401 : Cond.methodLink RX11 70 yX2_addWay ∈ lw_tbl := tbl_3 _ (List.mem_of_getElem? (i := 8) (by decide +kernel))
theorem tb402 : Cond.instanceMethod yX2_addWay ∈ lw_tbl := tbl_3 _ (List.mem_of_getElem? (i := 9) (by decide +kernel))
theorem tb403 : Cond.selects RX2 yX2_addWay yX2_addWay ∈ lw_tbl := tbl_3 _ (List.mem_of_getElem? (i := 10) (by decide +kernel))
theorem tb404 : Cond.code yX2_addWay cX2_addWay 2 (some .boolean) ∈ lw_tbl := tbl_3 _ (List.mem_of_getElem? (i := 11) (by decide +kernel))
theorem tb405 : Cond.methodLink RL 27 yX12_way ∈ lw_tbl := tbl_5 _ (List.mem_of_getElem? (i := 88) (by decide +kernel))
theorem tb406 : Cond.instanceMethod yX12_way ∈ lw_tbl := tbl_5 _ (List.mem_of_getElem? (i := 89) (by decide +kernel))
theorem tb407 : Cond.selects RX12 yX12_way yX12_way ∈ lw_tbl := tbl_5 _ (List.mem_of_getElem? (i := 90) (by decide +kernel))
theorem tb408 : Cond.code yX12_way cX12_way 6 (some .int) ∈ lw_tbl := tbl_5 _ (List.mem_of_getElem? (i := 91) (by decide +kernel))
theorem tb409 : Cond.methodLink RL 28 yX11_of ∈ lw_tbl := tbl_3 _ (List.mem_of_getElem? (i := 12) (by decide +kernel))
theorem tb410 : Cond.instanceMethod yX11_of ∈ lw_tbl := tbl_3 _ (List.mem_of_getElem? (i := 13) (by decide +kernel))
theorem tb411 : Cond.selects RX11 yX11_of yX11_of ∈ lw_tbl := tbl_3 _ (List.mem_of_getElem? (i := 14) (by decide +kernel))
theorem tb412 : Cond.code yX11_of cX11_of 4 (some .int) ∈ lw_tbl := tbl_3 _ (List.mem_of_getElem? (i := 15) (by decide +kernel))
theorem tb413 : Cond.fieldLink RX11 78 "TwoPens$Line" "kind" "I" ∈ lw_tbl := tbl_2 _ (List.mem_of_getElem? (i := 141) (by decide +kernel))
theorem tb414 : Cond.fieldLink RX11 83 "TwoPens$Line" "v" "I" ∈ lw_tbl := tbl_2 _ (List.mem_of_getElem? (i := 161) (by decide +kernel))
theorem tb415 : Cond.fieldLink RX11 86 "TwoPens$Line" "slow" "I" ∈ lw_tbl := tbl_2 _ (List.mem_of_getElem? (i := 172) (by decide +kernel))
theorem tb416 : Cond.fieldLink RX11 89 "TwoPens$Desk" "sheet" "LTwoPens$Numbers;" ∈ lw_tbl := tbl_1 _ (List.mem_of_getElem? (i := 90) (by decide +kernel))
theorem tb417 : Cond.methodLink RX11 74 yX2_wayOf ∈ lw_tbl := tbl_3 _ (List.mem_of_getElem? (i := 16) (by decide +kernel))
theorem tb418 : Cond.instanceMethod yX2_wayOf ∈ lw_tbl := tbl_3 _ (List.mem_of_getElem? (i := 17) (by decide +kernel))
theorem tb419 : Cond.selects RX2 yX2_wayOf yX2_wayOf ∈ lw_tbl := tbl_3 _ (List.mem_of_getElem? (i := 18) (by decide +kernel))
theorem tb420 : Cond.code yX2_wayOf cX2_wayOf 2 (some (.object "TwoPens$Line")) ∈ lw_tbl := tbl_3 _ (List.mem_of_getElem? (i := 19) (by decide +kernel))
theorem tb421 : Cond.methodLink RX11 92 yX5_timesOf ∈ lw_tbl := tbl_3 _ (List.mem_of_getElem? (i := 20) (by decide +kernel))
theorem tb422 : Cond.instanceMethod yX5_timesOf ∈ lw_tbl := tbl_3 _ (List.mem_of_getElem? (i := 21) (by decide +kernel))
theorem tb423 : Cond.selects RX5 yX5_timesOf yX5_timesOf ∈ lw_tbl := tbl_3 _ (List.mem_of_getElem? (i := 22) (by decide +kernel))
theorem tb424 : Cond.code yX5_timesOf cX5_timesOf 4 (some .int) ∈ lw_tbl := tbl_3 _ (List.mem_of_getElem? (i := 23) (by decide +kernel))
theorem tb425 : Cond.methodLink RX5 23 yX5_get ∈ lw_tbl := tbl_3 _ (List.mem_of_getElem? (i := 24) (by decide +kernel))
theorem tb426 : Cond.methodLink RL 32 yX12_of ∈ lw_tbl := tbl_5 _ (List.mem_of_getElem? (i := 92) (by decide +kernel))
theorem tb427 : Cond.instanceMethod yX12_of ∈ lw_tbl := tbl_5 _ (List.mem_of_getElem? (i := 93) (by decide +kernel))
theorem tb428 : Cond.selects RX12 yX12_of yX12_of ∈ lw_tbl := tbl_5 _ (List.mem_of_getElem? (i := 94) (by decide +kernel))
theorem tb429 : Cond.code yX12_of cX12_of 5 (some .int) ∈ lw_tbl := tbl_5 _ (List.mem_of_getElem? (i := 95) (by decide +kernel))
theorem tb430 : Cond.methodLink RX12 138 yX12_isWay ∈ lw_tbl := tbl_5 _ (List.mem_of_getElem? (i := 96) (by decide +kernel))
theorem tb431 : Cond.instanceMethod yX12_isWay ∈ lw_tbl := tbl_5 _ (List.mem_of_getElem? (i := 98) (by decide +kernel))
theorem tb432 : Cond.selects RX12 yX12_isWay yX12_isWay ∈ lw_tbl := tbp_2 (yX12_isWay, 24) (List.mem_of_getElem? (i := 11) (by decide +kernel))
theorem tb433 : Cond.code yX12_isWay cX12_isWay 2 (some .boolean) ∈ lw_tbl := tbl_5 _ (List.mem_of_getElem? (i := 99) (by decide +kernel))
theorem tb434 : Cond.methodLink RL 33 yX11_row ∈ lw_tbl := tbl_3 _ (List.mem_of_getElem? (i := 25) (by decide +kernel))
theorem tb435 : Cond.instanceMethod yX11_row ∈ lw_tbl := tbl_3 _ (List.mem_of_getElem? (i := 26) (by decide +kernel))
theorem tb436 : Cond.selects RX11 yX11_row yX11_row ∈ lw_tbl := tbl_3 _ (List.mem_of_getElem? (i := 27) (by decide +kernel))
theorem tb437 : Cond.code yX11_row cX11_row 6 (some .int) ∈ lw_tbl := tbl_3 _ (List.mem_of_getElem? (i := 28) (by decide +kernel))
theorem tb438 : Cond.classLink RX11 96 "TwoPens$Told" ∈ lw_tbl := tbl_2 _ (List.mem_of_getElem? (i := 226) (by decide +kernel))
theorem tb439 : Cond.methodLink RX11 98 yX7_withRow ∈ lw_tbl := tbl_3 _ (List.mem_of_getElem? (i := 29) (by decide +kernel))
theorem tb440 : Cond.instanceMethod yX7_withRow ∈ lw_tbl := tbl_3 _ (List.mem_of_getElem? (i := 30) (by decide +kernel))
theorem tb441 : Cond.selects RX7 yX7_withRow yX7_withRow ∈ lw_tbl := tbl_3 _ (List.mem_of_getElem? (i := 31) (by decide +kernel))
theorem tb442 : Cond.code yX7_withRow cX7_withRow 4 (some (.object "TwoPens$Told")) ∈ lw_tbl := tbl_3 _ (List.mem_of_getElem? (i := 32) (by decide +kernel))
theorem tb443 : Cond.methodLink RX7 13 ⟨"[I", "clone", "()Ljava/lang/Object;"⟩ ∈ lw_tbl := tbl_3 _ (List.mem_of_getElem? (i := 33) (by decide +kernel))
theorem tb444 : Cond.sameMethod "[I" "java/lang/Object" "clone" "()Ljava/lang/Object;" ∈ lw_tbl := tbl_3 _ (List.mem_of_getElem? (i := 34) (by decide +kernel))
theorem tb445 : Cond.native ⟨"java/lang/Object", "clone", "()Ljava/lang/Object;"⟩ ∈ lw_tbl := tbl_3 _ (List.mem_of_getElem? (i := 35) (by decide +kernel))
theorem tb446 : Cond.instanceMethod ⟨"java/lang/Object", "clone", "()Ljava/lang/Object;"⟩ ∈ lw_tbl := tbl_3 _ (List.mem_of_getElem? (i := 36) (by decide +kernel))
theorem tb447 : Cond.selects "[I" ⟨"[I", "clone", "()Ljava/lang/Object;"⟩ ⟨"java/lang/Object", "clone", "()Ljava/lang/Object;"⟩ ∈ lw_tbl := tbl_3 _ (List.mem_of_getElem? (i := 37) (by decide +kernel))
theorem tb448 : Cond.classLink RX7 14 "[I" ∈ lw_tbl := tbl_3 _ (List.mem_of_getElem? (i := 39) (by decide +kernel))
theorem tb449 : Cond.classLink RX7 8 RX7 ∈ lw_tbl := tbl_3 _ (List.mem_of_getElem? (i := 40) (by decide +kernel))
theorem tb450 : Cond.fieldLink RX7 18 "TwoPens$Told" "number" "I" ∈ lw_tbl := tbl_2 _ (List.mem_of_getElem? (i := 146) (by decide +kernel))
theorem tb451 : Cond.sameField "TwoPens$Told" "TwoPens$Line" "number" "I" ∈ lw_tbl := tbl_2 _ (List.mem_of_getElem? (i := 147) (by decide +kernel))
theorem tb452 : Cond.fieldLink RX7 22 "TwoPens$Told" "v" "I" ∈ lw_tbl := tbl_2 _ (List.mem_of_getElem? (i := 159) (by decide +kernel))
theorem tb453 : Cond.sameField "TwoPens$Told" "TwoPens$Line" "v" "I" ∈ lw_tbl := tbl_2 _ (List.mem_of_getElem? (i := 160) (by decide +kernel))
theorem tb454 : Cond.fieldLink RX7 25 "TwoPens$Told" "slow" "I" ∈ lw_tbl := tbl_2 _ (List.mem_of_getElem? (i := 170) (by decide +kernel))
theorem tb455 : Cond.sameField "TwoPens$Told" "TwoPens$Line" "slow" "I" ∈ lw_tbl := tbl_2 _ (List.mem_of_getElem? (i := 171) (by decide +kernel))
theorem tb456 : Cond.methodLink RX7 28 yX7_init ∈ lw_tbl := tbl_3 _ (List.mem_of_getElem? (i := 41) (by decide +kernel))
theorem tb457 : Cond.methodLink RX11 102 yX2_putWay ∈ lw_tbl := tbl_3 _ (List.mem_of_getElem? (i := 42) (by decide +kernel))
theorem tb458 : Cond.instanceMethod yX2_putWay ∈ lw_tbl := tbl_3 _ (List.mem_of_getElem? (i := 43) (by decide +kernel))
theorem tb459 : Cond.selects RX2 yX2_putWay yX2_putWay ∈ lw_tbl := tbl_3 _ (List.mem_of_getElem? (i := 44) (by decide +kernel))
theorem tb460 : Cond.code yX2_putWay cX2_putWay 3 none ∈ lw_tbl := tbl_3 _ (List.mem_of_getElem? (i := 45) (by decide +kernel))
theorem tb461 : Cond.methodLink RX11 106 yX7_rowAt ∈ lw_tbl := tbl_3 _ (List.mem_of_getElem? (i := 46) (by decide +kernel))
theorem tb462 : Cond.instanceMethod yX7_rowAt ∈ lw_tbl := tbl_3 _ (List.mem_of_getElem? (i := 47) (by decide +kernel))
theorem tb463 : Cond.selects RX7 yX7_rowAt yX7_rowAt ∈ lw_tbl := tbl_3 _ (List.mem_of_getElem? (i := 48) (by decide +kernel))
theorem tb464 : Cond.code yX7_rowAt cX7_rowAt 2 (some .int) ∈ lw_tbl := tbl_3 _ (List.mem_of_getElem? (i := 49) (by decide +kernel))
theorem tb465 : Cond.methodLink RL 36 yX12_row ∈ lw_tbl := tbl_5 _ (List.mem_of_getElem? (i := 100) (by decide +kernel))
theorem tb466 : Cond.instanceMethod yX12_row ∈ lw_tbl := tbl_5 _ (List.mem_of_getElem? (i := 101) (by decide +kernel))
theorem tb467 : Cond.selects RX12 yX12_row yX12_row ∈ lw_tbl := tbl_5 _ (List.mem_of_getElem? (i := 102) (by decide +kernel))
theorem tb468 : Cond.code yX12_row cX12_row 5 (some .int) ∈ lw_tbl := tbl_5 _ (List.mem_of_getElem? (i := 103) (by decide +kernel))
theorem tb469 : Cond.methodLink RL 37 yX11_write ∈ lw_tbl := tbl_3 _ (List.mem_of_getElem? (i := 50) (by decide +kernel))
theorem tb470 : Cond.instanceMethod yX11_write ∈ lw_tbl := tbl_3 _ (List.mem_of_getElem? (i := 51) (by decide +kernel))
theorem tb471 : Cond.selects RX11 yX11_write yX11_write ∈ lw_tbl := tbl_3 _ (List.mem_of_getElem? (i := 52) (by decide +kernel))
theorem tb472 : Cond.code yX11_write cX11_write 5 (some .int) ∈ lw_tbl := tbl_3 _ (List.mem_of_getElem? (i := 53) (by decide +kernel))
theorem tb473 : Cond.fieldLink RX11 112 "TwoPens$Desk" "spent" "I" ∈ lw_tbl := tbl_1 _ (List.mem_of_getElem? (i := 92) (by decide +kernel))
theorem tb474 : Cond.fieldLink RX11 119 "TwoPens$Desk" "paid" "I" ∈ lw_tbl := tbl_1 _ (List.mem_of_getElem? (i := 94) (by decide +kernel))
theorem tb475 : Cond.methodLink RX11 109 yX11_isLength ∈ lw_tbl := tbl_3 _ (List.mem_of_getElem? (i := 54) (by decide +kernel))
theorem tb476 : Cond.static yX11_isLength ∈ lw_tbl := tbl_3 _ (List.mem_of_getElem? (i := 55) (by decide +kernel))
theorem tb477 : Cond.code yX11_isLength cX11_isLength 1 (some .boolean) ∈ lw_tbl := tbl_3 _ (List.mem_of_getElem? (i := 56) (by decide +kernel))
theorem tb478 : Cond.methodLink RX11 115 yX2_secondsOf ∈ lw_tbl := tbl_3 _ (List.mem_of_getElem? (i := 57) (by decide +kernel))
theorem tb479 : Cond.instanceMethod yX2_secondsOf ∈ lw_tbl := tbl_3 _ (List.mem_of_getElem? (i := 58) (by decide +kernel))
theorem tb480 : Cond.selects RX2 yX2_secondsOf yX2_secondsOf ∈ lw_tbl := tbl_3 _ (List.mem_of_getElem? (i := 59) (by decide +kernel))
theorem tb481 : Cond.code yX2_secondsOf cX2_secondsOf 4 (some .int) ∈ lw_tbl := tbl_3 _ (List.mem_of_getElem? (i := 60) (by decide +kernel))
theorem tb482 : Cond.methodLink RX2 68 yX2_wayOf ∈ lw_tbl := tbl_3 _ (List.mem_of_getElem? (i := 61) (by decide +kernel))
theorem tb483 : Cond.methodLink RX2 72 ⟨"TwoPens$Line", "seconds", "(I)I"⟩ ∈ lw_tbl := tbl_3 _ (List.mem_of_getElem? (i := 62) (by decide +kernel))
theorem tb484 : Cond.sameMethod "TwoPens$Line" "TwoPens$Line" "seconds" "(I)I" ∈ lw_tbl := tbl_3 _ (List.mem_of_getElem? (i := 65) (by decide +kernel))
theorem tb485 : Cond.instanceMethod ⟨"TwoPens$Line", "seconds", "(I)I"⟩ ∈ lw_tbl := tbl_3 _ (List.mem_of_getElem? (i := 63) (by decide +kernel))
theorem tb486 : Cond.selects RX0 ⟨"TwoPens$Line", "seconds", "(I)I"⟩ yX0_seconds ∈ lw_tbl := tbl_3 _ (List.mem_of_getElem? (i := 66) (by decide +kernel))
theorem tb487 : Cond.instanceMethod yX0_seconds ∈ lw_tbl := tbl_3 _ (List.mem_of_getElem? (i := 67) (by decide +kernel))
theorem tb488 : Cond.code yX0_seconds cX0_seconds 2 (some .int) ∈ lw_tbl := tbl_3 _ (List.mem_of_getElem? (i := 68) (by decide +kernel))
theorem tb489 : Cond.fieldLink RX0 7 "TwoPens$Column" "slow" "I" ∈ lw_tbl := tbl_2 _ (List.mem_of_getElem? (i := 164) (by decide +kernel))
theorem tb490 : Cond.sameField "TwoPens$Column" "TwoPens$Line" "slow" "I" ∈ lw_tbl := tbl_2 _ (List.mem_of_getElem? (i := 165) (by decide +kernel))
theorem tb491 : Cond.fieldLink RX0 13 "TwoPens$Column" "v" "I" ∈ lw_tbl := tbl_2 _ (List.mem_of_getElem? (i := 153) (by decide +kernel))
theorem tb492 : Cond.sameField "TwoPens$Column" "TwoPens$Line" "v" "I" ∈ lw_tbl := tbl_2 _ (List.mem_of_getElem? (i := 154) (by decide +kernel))
theorem tb493 : Cond.code yX4_seconds cX4_seconds 4 (some .int) ∈ lw_tbl := tbl_3 _ (List.mem_of_getElem? (i := 87) (by decide +kernel))
theorem tb494 : Cond.selects RX1 ⟨"TwoPens$Line", "seconds", "(I)I"⟩ yX1_seconds ∈ lw_tbl := tbl_3 _ (List.mem_of_getElem? (i := 69) (by decide +kernel))
theorem tb495 : Cond.instanceMethod yX1_seconds ∈ lw_tbl := tbl_3 _ (List.mem_of_getElem? (i := 70) (by decide +kernel))
theorem tb496 : Cond.code yX1_seconds cX1_seconds 2 (some .int) ∈ lw_tbl := tbl_3 _ (List.mem_of_getElem? (i := 71) (by decide +kernel))
theorem tb497 : Cond.methodLink RX1 7 yX0_seconds ∈ lw_tbl := tbl_3 _ (List.mem_of_getElem? (i := 72) (by decide +kernel))
theorem tb498 : Cond.sameMethod "TwoPens$Column" "TwoPens$Column" "seconds" "(I)I" ∈ lw_tbl := tbl_6 _ (List.mem_of_getElem? (i := 108) (by decide +kernel))
theorem tb499 : Cond.superclass RX1 RX0 ∈ lw_tbl := tbl_2 _ (List.mem_of_getElem? (i := 225) (by decide +kernel))
theorem tb500 : Cond.selects RX3 ⟨"TwoPens$Line", "seconds", "(I)I"⟩ yX3_seconds ∈ lw_tbl := tbl_3 _ (List.mem_of_getElem? (i := 73) (by decide +kernel))
theorem tb501 : Cond.instanceMethod yX3_seconds ∈ lw_tbl := tbl_3 _ (List.mem_of_getElem? (i := 74) (by decide +kernel))
theorem tb502 : Cond.code yX3_seconds cX3_seconds 2 (some .int) ∈ lw_tbl := tbl_3 _ (List.mem_of_getElem? (i := 75) (by decide +kernel))
theorem tb503 : Cond.methodLink RX2 72 yX4_seconds ∈ lw_tbl := tbl_3 _ (List.mem_of_getElem? (i := 62) (by decide +kernel))
theorem tb504 : Cond.instanceMethod yX4_seconds ∈ lw_tbl := tbl_3 _ (List.mem_of_getElem? (i := 63) (by decide +kernel))
theorem tb505 : Cond.selects RX4 yX4_seconds yX4_seconds ∈ lw_tbl := tbl_3 _ (List.mem_of_getElem? (i := 64) (by decide +kernel))
theorem tb506 : Cond.selects RX7 ⟨"TwoPens$Line", "seconds", "(I)I"⟩ yX7_seconds ∈ lw_tbl := tbl_3 _ (List.mem_of_getElem? (i := 76) (by decide +kernel))
theorem tb507 : Cond.instanceMethod yX7_seconds ∈ lw_tbl := tbl_3 _ (List.mem_of_getElem? (i := 77) (by decide +kernel))
theorem tb508 : Cond.code yX7_seconds cX7_seconds 2 (some .int) ∈ lw_tbl := tbl_3 _ (List.mem_of_getElem? (i := 78) (by decide +kernel))
theorem tb509 : Cond.methodLink RX7 31 yX7_rowAt ∈ lw_tbl := tbl_3 _ (List.mem_of_getElem? (i := 79) (by decide +kernel))
theorem tb510 : Cond.selects RX9 ⟨"TwoPens$Line", "seconds", "(I)I"⟩ yX9_seconds ∈ lw_tbl := tbl_3 _ (List.mem_of_getElem? (i := 80) (by decide +kernel))
theorem tb511 : Cond.instanceMethod yX9_seconds ∈ lw_tbl := tbl_3 _ (List.mem_of_getElem? (i := 81) (by decide +kernel))
theorem tb512 : Cond.code yX9_seconds cX9_seconds 2 (some .int) ∈ lw_tbl := tbl_3 _ (List.mem_of_getElem? (i := 82) (by decide +kernel))
theorem tb513 : Cond.fieldLink RX9 7 "TwoPens$Triple" "slow" "I" ∈ lw_tbl := tbl_2 _ (List.mem_of_getElem? (i := 166) (by decide +kernel))
theorem tb514 : Cond.sameField "TwoPens$Triple" "TwoPens$Line" "slow" "I" ∈ lw_tbl := tbl_2 _ (List.mem_of_getElem? (i := 167) (by decide +kernel))
theorem tb515 : Cond.fieldLink RX9 13 "TwoPens$Triple" "v" "I" ∈ lw_tbl := tbl_2 _ (List.mem_of_getElem? (i := 155) (by decide +kernel))
theorem tb516 : Cond.sameField "TwoPens$Triple" "TwoPens$Line" "v" "I" ∈ lw_tbl := tbl_2 _ (List.mem_of_getElem? (i := 156) (by decide +kernel))
theorem tb517 : Cond.methodLink RX9 16 yX10_seconds ∈ lw_tbl := tbl_3 _ (List.mem_of_getElem? (i := 83) (by decide +kernel))
theorem tb518 : Cond.sameMethod "TwoPens$Twin" "TwoPens$Twin" "seconds" "(I)I" ∈ lw_tbl := tbl_6 _ (List.mem_of_getElem? (i := 109) (by decide +kernel))
theorem tb519 : Cond.superclass RX9 RX10 ∈ lw_tbl := tbl_2 _ (List.mem_of_getElem? (i := 214) (by decide +kernel))
theorem tb520 : Cond.instanceMethod yX10_seconds ∈ lw_tbl := tbl_3 _ (List.mem_of_getElem? (i := 84) (by decide +kernel))
theorem tb521 : Cond.code yX10_seconds cX10_seconds 2 (some .int) ∈ lw_tbl := tbl_3 _ (List.mem_of_getElem? (i := 85) (by decide +kernel))
theorem tb522 : Cond.fieldLink RX10 7 "TwoPens$Twin" "slow" "I" ∈ lw_tbl := tbl_2 _ (List.mem_of_getElem? (i := 168) (by decide +kernel))
theorem tb523 : Cond.sameField "TwoPens$Twin" "TwoPens$Line" "slow" "I" ∈ lw_tbl := tbl_2 _ (List.mem_of_getElem? (i := 169) (by decide +kernel))
theorem tb524 : Cond.fieldLink RX10 13 "TwoPens$Twin" "v" "I" ∈ lw_tbl := tbl_2 _ (List.mem_of_getElem? (i := 151) (by decide +kernel))
theorem tb525 : Cond.sameField "TwoPens$Twin" "TwoPens$Line" "v" "I" ∈ lw_tbl := tbl_2 _ (List.mem_of_getElem? (i := 152) (by decide +kernel))
theorem tb526 : Cond.selects RX10 ⟨"TwoPens$Line", "seconds", "(I)I"⟩ yX10_seconds ∈ lw_tbl := tbl_3 _ (List.mem_of_getElem? (i := 86) (by decide +kernel))
theorem tb527 : Cond.methodLink RX11 122 yX2_penceOf ∈ lw_tbl := tbl_3 _ (List.mem_of_getElem? (i := 88) (by decide +kernel))
theorem tb528 : Cond.instanceMethod yX2_penceOf ∈ lw_tbl := tbl_3 _ (List.mem_of_getElem? (i := 89) (by decide +kernel))
theorem tb529 : Cond.selects RX2 yX2_penceOf yX2_penceOf ∈ lw_tbl := tbl_3 _ (List.mem_of_getElem? (i := 90) (by decide +kernel))
theorem tb530 : Cond.code yX2_penceOf cX2_penceOf 4 (some .int) ∈ lw_tbl := tbl_3 _ (List.mem_of_getElem? (i := 91) (by decide +kernel))
theorem tb531 : Cond.methodLink RX2 76 ⟨"TwoPens$Line", "pence", "(I)I"⟩ ∈ lw_tbl := tbl_3 _ (List.mem_of_getElem? (i := 92) (by decide +kernel))
theorem tb532 : Cond.sameMethod "TwoPens$Line" "TwoPens$Line" "pence" "(I)I" ∈ lw_tbl := tbl_3 _ (List.mem_of_getElem? (i := 95) (by decide +kernel))
theorem tb533 : Cond.selects RX0 ⟨"TwoPens$Line", "pence", "(I)I"⟩ yX4_pence ∈ lw_tbl := tbl_3 _ (List.mem_of_getElem? (i := 96) (by decide +kernel))
theorem tb534 : Cond.instanceMethod yX4_pence ∈ lw_tbl := tbl_3 _ (List.mem_of_getElem? (i := 93) (by decide +kernel))
theorem tb535 : Cond.code yX4_pence cX4_pence 2 (some .int) ∈ lw_tbl := tbl_3 _ (List.mem_of_getElem? (i := 104) (by decide +kernel))
theorem tb536 : Cond.selects RX1 ⟨"TwoPens$Line", "pence", "(I)I"⟩ yX4_pence ∈ lw_tbl := tbl_3 _ (List.mem_of_getElem? (i := 97) (by decide +kernel))
theorem tb537 : Cond.instanceMethod ⟨"TwoPens$Line", "pence", "(I)I"⟩ ∈ lw_tbl := tbl_3 _ (List.mem_of_getElem? (i := 93) (by decide +kernel))
theorem tb538 : Cond.selects RX3 ⟨"TwoPens$Line", "pence", "(I)I"⟩ yX3_pence ∈ lw_tbl := tbl_3 _ (List.mem_of_getElem? (i := 98) (by decide +kernel))
theorem tb539 : Cond.instanceMethod yX3_pence ∈ lw_tbl := tbl_3 _ (List.mem_of_getElem? (i := 99) (by decide +kernel))
theorem tb540 : Cond.code yX3_pence cX3_pence 2 (some .int) ∈ lw_tbl := tbl_3 _ (List.mem_of_getElem? (i := 100) (by decide +kernel))
theorem tb541 : Cond.fieldLink RX3 7 "TwoPens$Lent" "v" "I" ∈ lw_tbl := tbl_2 _ (List.mem_of_getElem? (i := 157) (by decide +kernel))
theorem tb542 : Cond.sameField "TwoPens$Lent" "TwoPens$Line" "v" "I" ∈ lw_tbl := tbl_2 _ (List.mem_of_getElem? (i := 158) (by decide +kernel))
theorem tb543 : Cond.methodLink RX2 76 yX4_pence ∈ lw_tbl := tbl_3 _ (List.mem_of_getElem? (i := 92) (by decide +kernel))
theorem tb544 : Cond.selects RX4 yX4_pence yX4_pence ∈ lw_tbl := tbl_3 _ (List.mem_of_getElem? (i := 94) (by decide +kernel))
theorem tb545 : Cond.selects RX7 ⟨"TwoPens$Line", "pence", "(I)I"⟩ yX3_pence ∈ lw_tbl := tbl_3 _ (List.mem_of_getElem? (i := 101) (by decide +kernel))
theorem tb546 : Cond.selects RX9 ⟨"TwoPens$Line", "pence", "(I)I"⟩ yX4_pence ∈ lw_tbl := tbl_3 _ (List.mem_of_getElem? (i := 102) (by decide +kernel))
theorem tb547 : Cond.selects RX10 ⟨"TwoPens$Line", "pence", "(I)I"⟩ yX4_pence ∈ lw_tbl := tbl_3 _ (List.mem_of_getElem? (i := 103) (by decide +kernel))
theorem tb548 : Cond.methodLink RL 40 yX12_write ∈ lw_tbl := tbl_5 _ (List.mem_of_getElem? (i := 104) (by decide +kernel))
theorem tb549 : Cond.instanceMethod yX12_write ∈ lw_tbl := tbl_5 _ (List.mem_of_getElem? (i := 105) (by decide +kernel))
theorem tb550 : Cond.selects RX12 yX12_write yX12_write ∈ lw_tbl := tbl_5 _ (List.mem_of_getElem? (i := 106) (by decide +kernel))
theorem tb551 : Cond.code yX12_write cX12_write 4 (some .int) ∈ lw_tbl := tbl_5 _ (List.mem_of_getElem? (i := 107) (by decide +kernel))
theorem tb552 : Cond.methodLink RX12 142 yX12_secondsOf ∈ lw_tbl := tbl_5 _ (List.mem_of_getElem? (i := 108) (by decide +kernel))
theorem tb553 : Cond.instanceMethod yX12_secondsOf ∈ lw_tbl := tbl_5 _ (List.mem_of_getElem? (i := 110) (by decide +kernel))
theorem tb554 : Cond.selects RX12 yX12_secondsOf yX12_secondsOf ∈ lw_tbl := tbp_2 (yX12_secondsOf, 24) (List.mem_of_getElem? (i := 12) (by decide +kernel))
theorem tb555 : Cond.code yX12_secondsOf cX12_secondsOf 4 (some .int) ∈ lw_tbl := tbl_5 _ (List.mem_of_getElem? (i := 111) (by decide +kernel))
theorem tb556 : Cond.methodLink RX12 129 yX12_twins ∈ lw_tbl := tbl_5 _ (List.mem_of_getElem? (i := 112) (by decide +kernel))
theorem tb557 : Cond.instanceMethod yX12_twins ∈ lw_tbl := tbl_5 _ (List.mem_of_getElem? (i := 114) (by decide +kernel))
theorem tb558 : Cond.selects RX12 yX12_twins yX12_twins ∈ lw_tbl := tbp_2 (yX12_twins, 24) (List.mem_of_getElem? (i := 13) (by decide +kernel))
theorem tb559 : Cond.code yX12_twins cX12_twins 3 (some .int) ∈ lw_tbl := tbl_5 _ (List.mem_of_getElem? (i := 115) (by decide +kernel))
theorem tb560 : Cond.methodLink RX12 132 yX12_columns ∈ lw_tbl := tbl_5 _ (List.mem_of_getElem? (i := 116) (by decide +kernel))
theorem tb561 : Cond.instanceMethod yX12_columns ∈ lw_tbl := tbl_5 _ (List.mem_of_getElem? (i := 118) (by decide +kernel))
theorem tb562 : Cond.selects RX12 yX12_columns yX12_columns ∈ lw_tbl := tbp_2 (yX12_columns, 24) (List.mem_of_getElem? (i := 14) (by decide +kernel))
theorem tb563 : Cond.code yX12_columns cX12_columns 3 (some .int) ∈ lw_tbl := tbl_5 _ (List.mem_of_getElem? (i := 119) (by decide +kernel))
theorem tb564 : Cond.methodLink RX12 135 yX12_byHand ∈ lw_tbl := tbl_5 _ (List.mem_of_getElem? (i := 120) (by decide +kernel))
theorem tb565 : Cond.instanceMethod yX12_byHand ∈ lw_tbl := tbl_5 _ (List.mem_of_getElem? (i := 122) (by decide +kernel))
theorem tb566 : Cond.selects RX12 yX12_byHand yX12_byHand ∈ lw_tbl := tbp_2 (yX12_byHand, 24) (List.mem_of_getElem? (i := 15) (by decide +kernel))
theorem tb567 : Cond.code yX12_byHand cX12_byHand 5 (some .int) ∈ lw_tbl := tbl_5 _ (List.mem_of_getElem? (i := 123) (by decide +kernel))
theorem tb568 : Cond.methodLink RX12 145 yX12_penceOf ∈ lw_tbl := tbl_5 _ (List.mem_of_getElem? (i := 124) (by decide +kernel))
theorem tb569 : Cond.instanceMethod yX12_penceOf ∈ lw_tbl := tbl_5 _ (List.mem_of_getElem? (i := 126) (by decide +kernel))
theorem tb570 : Cond.selects RX12 yX12_penceOf yX12_penceOf ∈ lw_tbl := tbp_3 (yX12_penceOf, 24) (List.mem_of_getElem? (i := 0) (by decide +kernel))
theorem tb571 : Cond.code yX12_penceOf cX12_penceOf 3 (some .int) ∈ lw_tbl := tbl_5 _ (List.mem_of_getElem? (i := 127) (by decide +kernel))
theorem tb572 : Cond.methodLink RL 41 yX11_tear ∈ lw_tbl := tbl_3 _ (List.mem_of_getElem? (i := 105) (by decide +kernel))
theorem tb573 : Cond.instanceMethod yX11_tear ∈ lw_tbl := tbl_3 _ (List.mem_of_getElem? (i := 106) (by decide +kernel))
theorem tb574 : Cond.selects RX11 yX11_tear yX11_tear ∈ lw_tbl := tbl_3 _ (List.mem_of_getElem? (i := 107) (by decide +kernel))
theorem tb575 : Cond.code yX11_tear cX11_tear 2 (some .int) ∈ lw_tbl := tbl_3 _ (List.mem_of_getElem? (i := 108) (by decide +kernel))
theorem tb576 : Cond.fieldLink RX11 125 "TwoPens$Desk" "shown" "LTwoPens$Numbers;" ∈ lw_tbl := tbl_1 _ (List.mem_of_getElem? (i := 98) (by decide +kernel))
theorem tb577 : Cond.methodLink RL 44 yX12_tear ∈ lw_tbl := tbl_5 _ (List.mem_of_getElem? (i := 128) (by decide +kernel))
theorem tb578 : Cond.instanceMethod yX12_tear ∈ lw_tbl := tbl_5 _ (List.mem_of_getElem? (i := 129) (by decide +kernel))
theorem tb579 : Cond.selects RX12 yX12_tear yX12_tear ∈ lw_tbl := tbl_5 _ (List.mem_of_getElem? (i := 130) (by decide +kernel))
theorem tb580 : Cond.code yX12_tear cX12_tear 2 (some .int) ∈ lw_tbl := tbl_5 _ (List.mem_of_getElem? (i := 131) (by decide +kernel))
theorem tb581 : Cond.methodLink RL 45 yX11_line ∈ lw_tbl := tbl_3 _ (List.mem_of_getElem? (i := 109) (by decide +kernel))
theorem tb582 : Cond.instanceMethod yX11_line ∈ lw_tbl := tbl_3 _ (List.mem_of_getElem? (i := 110) (by decide +kernel))
theorem tb583 : Cond.selects RX11 yX11_line yX11_line ∈ lw_tbl := tbl_3 _ (List.mem_of_getElem? (i := 111) (by decide +kernel))
theorem tb584 : Cond.code yX11_line cX11_line 4 (some .int) ∈ lw_tbl := tbl_3 _ (List.mem_of_getElem? (i := 112) (by decide +kernel))
theorem tb585 : Cond.methodLink RX11 128 yX5_hasPlace ∈ lw_tbl := tbl_3 _ (List.mem_of_getElem? (i := 113) (by decide +kernel))
theorem tb586 : Cond.instanceMethod yX5_hasPlace ∈ lw_tbl := tbl_3 _ (List.mem_of_getElem? (i := 114) (by decide +kernel))
theorem tb587 : Cond.selects RX5 yX5_hasPlace yX5_hasPlace ∈ lw_tbl := tbl_3 _ (List.mem_of_getElem? (i := 115) (by decide +kernel))
theorem tb588 : Cond.code yX5_hasPlace cX5_hasPlace 2 (some .boolean) ∈ lw_tbl := tbl_3 _ (List.mem_of_getElem? (i := 116) (by decide +kernel))
theorem tb589 : Cond.methodLink RX11 131 yX11_isPart ∈ lw_tbl := tbl_3 _ (List.mem_of_getElem? (i := 117) (by decide +kernel))
theorem tb590 : Cond.static yX11_isPart ∈ lw_tbl := tbl_3 _ (List.mem_of_getElem? (i := 118) (by decide +kernel))
theorem tb591 : Cond.code yX11_isPart cX11_isPart 1 (some .boolean) ∈ lw_tbl := tbl_3 _ (List.mem_of_getElem? (i := 119) (by decide +kernel))
theorem tb592 : Cond.methodLink RX11 134 yX2_signAt ∈ lw_tbl := tbl_3 _ (List.mem_of_getElem? (i := 120) (by decide +kernel))
theorem tb593 : Cond.instanceMethod yX2_signAt ∈ lw_tbl := tbl_3 _ (List.mem_of_getElem? (i := 121) (by decide +kernel))
theorem tb594 : Cond.selects RX2 yX2_signAt yX2_signAt ∈ lw_tbl := tbl_3 _ (List.mem_of_getElem? (i := 122) (by decide +kernel))
theorem tb595 : Cond.code yX2_signAt cX2_signAt 2 (some .int) ∈ lw_tbl := tbl_3 _ (List.mem_of_getElem? (i := 123) (by decide +kernel))
theorem tb596 : Cond.methodLink RX2 98 yX2_signIf ∈ lw_tbl := tbl_3 _ (List.mem_of_getElem? (i := 124) (by decide +kernel))
theorem tb597 : Cond.instanceMethod yX2_signIf ∈ lw_tbl := tbl_3 _ (List.mem_of_getElem? (i := 125) (by decide +kernel))
theorem tb598 : Cond.selects RX2 yX2_signIf yX2_signIf ∈ lw_tbl := tbl_3 _ (List.mem_of_getElem? (i := 126) (by decide +kernel))
theorem tb599 : Cond.code yX2_signIf cX2_signIf 6 (some .int) ∈ lw_tbl := tbl_3 _ (List.mem_of_getElem? (i := 127) (by decide +kernel))
theorem tb600 : Cond.fieldLink RX2 105 "TwoPens$Line" "number" "I" ∈ lw_tbl := tbl_2 _ (List.mem_of_getElem? (i := 148) (by decide +kernel))
theorem tb601 : Cond.methodLink RX2 102 yX2_numberIf ∈ lw_tbl := tbl_3 _ (List.mem_of_getElem? (i := 128) (by decide +kernel))
theorem tb602 : Cond.instanceMethod yX2_numberIf ∈ lw_tbl := tbl_3 _ (List.mem_of_getElem? (i := 130) (by decide +kernel))
theorem tb603 : Cond.selects RX2 yX2_numberIf yX2_numberIf ∈ lw_tbl := tbp_1 (yX2_numberIf, 13) (List.mem_of_getElem? (i := 8) (by decide +kernel))
theorem tb604 : Cond.code yX2_numberIf cX2_numberIf 4 (some .int) ∈ lw_tbl := tbl_3 _ (List.mem_of_getElem? (i := 131) (by decide +kernel))
theorem tb605 : Cond.methodLink RX2 95 yX5_get ∈ lw_tbl := tbl_3 _ (List.mem_of_getElem? (i := 132) (by decide +kernel))
theorem tb606 : Cond.methodLink RX2 108 yX6_signOf ∈ lw_tbl := tbl_3 _ (List.mem_of_getElem? (i := 133) (by decide +kernel))
theorem tb607 : Cond.instanceMethod yX6_signOf ∈ lw_tbl := tbl_3 _ (List.mem_of_getElem? (i := 134) (by decide +kernel))
theorem tb608 : Cond.selects RX6 yX6_signOf yX6_signOf ∈ lw_tbl := tbl_3 _ (List.mem_of_getElem? (i := 135) (by decide +kernel))
theorem tb609 : Cond.code yX6_signOf cX6_signOf 9 (some .int) ∈ lw_tbl := tbl_3 _ (List.mem_of_getElem? (i := 136) (by decide +kernel))
theorem tb610 : Cond.methodLink RX6 121 yX6_holds ∈ lw_tbl := tbl_3 _ (List.mem_of_getElem? (i := 137) (by decide +kernel))
theorem tb611 : Cond.static yX6_holds ∈ lw_tbl := tbl_3 _ (List.mem_of_getElem? (i := 138) (by decide +kernel))
theorem tb612 : Cond.code yX6_holds cX6_holds 6 (some .boolean) ∈ lw_tbl := tbl_3 _ (List.mem_of_getElem? (i := 139) (by decide +kernel))
theorem tb613 : Cond.methodLink RX6 125 yX6_valueAsked ∈ lw_tbl := tbl_3 _ (List.mem_of_getElem? (i := 140) (by decide +kernel))
theorem tb614 : Cond.static yX6_valueAsked ∈ lw_tbl := tbl_3 _ (List.mem_of_getElem? (i := 141) (by decide +kernel))
theorem tb615 : Cond.code yX6_valueAsked cX6_valueAsked 4 (some .int) ∈ lw_tbl := tbl_3 _ (List.mem_of_getElem? (i := 142) (by decide +kernel))
theorem tb616 : Cond.fieldLink RX6 129 "TwoPens$Line" "number" "I" ∈ lw_tbl := tbl_2 _ (List.mem_of_getElem? (i := 149) (by decide +kernel))
theorem tb617 : Cond.fieldLink RX6 134 "TwoPens$Line" "kind" "I" ∈ lw_tbl := tbl_2 _ (List.mem_of_getElem? (i := 142) (by decide +kernel))
theorem tb618 : Cond.fieldLink RX6 137 "TwoPens$Line" "v" "I" ∈ lw_tbl := tbl_2 _ (List.mem_of_getElem? (i := 162) (by decide +kernel))
theorem tb619 : Cond.methodLink RX11 137 yX5_get ∈ lw_tbl := tbl_3 _ (List.mem_of_getElem? (i := 143) (by decide +kernel))
theorem tb620 : Cond.methodLink RL 48 yX12_line ∈ lw_tbl := tbl_5 _ (List.mem_of_getElem? (i := 132) (by decide +kernel))
theorem tb621 : Cond.instanceMethod yX12_line ∈ lw_tbl := tbl_5 _ (List.mem_of_getElem? (i := 133) (by decide +kernel))
theorem tb622 : Cond.selects RX12 yX12_line yX12_line ∈ lw_tbl := tbl_5 _ (List.mem_of_getElem? (i := 134) (by decide +kernel))
theorem tb623 : Cond.code yX12_line cX12_line 3 (some .int) ∈ lw_tbl := tbl_5 _ (List.mem_of_getElem? (i := 135) (by decide +kernel))
theorem tb624 : Cond.methodLink RX12 148 yX12_signAt ∈ lw_tbl := tbl_5 _ (List.mem_of_getElem? (i := 136) (by decide +kernel))
theorem tb625 : Cond.instanceMethod yX12_signAt ∈ lw_tbl := tbl_5 _ (List.mem_of_getElem? (i := 138) (by decide +kernel))
theorem tb626 : Cond.selects RX12 yX12_signAt yX12_signAt ∈ lw_tbl := tbp_3 (yX12_signAt, 24) (List.mem_of_getElem? (i := 1) (by decide +kernel))
theorem tb627 : Cond.code yX12_signAt cX12_signAt 12 (some .int) ∈ lw_tbl := tbl_5 _ (List.mem_of_getElem? (i := 139) (by decide +kernel))
theorem tb628 : Cond.methodLink RX12 125 yX12_wayAt ∈ lw_tbl := tbl_5 _ (List.mem_of_getElem? (i := 140) (by decide +kernel))
theorem tb629 : Cond.instanceMethod yX12_wayAt ∈ lw_tbl := tbl_5 _ (List.mem_of_getElem? (i := 142) (by decide +kernel))
theorem tb630 : Cond.selects RX12 yX12_wayAt yX12_wayAt ∈ lw_tbl := tbp_3 (yX12_wayAt, 24) (List.mem_of_getElem? (i := 2) (by decide +kernel))
theorem tb631 : Cond.code yX12_wayAt cX12_wayAt 2 (some .int) ∈ lw_tbl := tbl_5 _ (List.mem_of_getElem? (i := 143) (by decide +kernel))
theorem tb632 : Cond.methodLink RX12 117 yX12_tellsOf ∈ lw_tbl := tbl_5 _ (List.mem_of_getElem? (i := 144) (by decide +kernel))
theorem tb633 : Cond.instanceMethod yX12_tellsOf ∈ lw_tbl := tbl_5 _ (List.mem_of_getElem? (i := 146) (by decide +kernel))
theorem tb634 : Cond.selects RX12 yX12_tellsOf yX12_tellsOf ∈ lw_tbl := tbp_3 (yX12_tellsOf, 24) (List.mem_of_getElem? (i := 3) (by decide +kernel))
theorem tb635 : Cond.code yX12_tellsOf cX12_tellsOf 3 (some .int) ∈ lw_tbl := tbl_5 _ (List.mem_of_getElem? (i := 147) (by decide +kernel))
theorem tb636 : Cond.methodLink RL 49 yX11_told ∈ lw_tbl := tbl_3 _ (List.mem_of_getElem? (i := 144) (by decide +kernel))
theorem tb637 : Cond.instanceMethod yX11_told ∈ lw_tbl := tbl_3 _ (List.mem_of_getElem? (i := 145) (by decide +kernel))
theorem tb638 : Cond.selects RX11 yX11_told yX11_told ∈ lw_tbl := tbl_3 _ (List.mem_of_getElem? (i := 146) (by decide +kernel))
theorem tb639 : Cond.code yX11_told cX11_told 2 (some .int) ∈ lw_tbl := tbl_3 _ (List.mem_of_getElem? (i := 147) (by decide +kernel))
theorem tb640 : Cond.fieldLink RX11 140 "TwoPens$School" "want" "I" ∈ lw_tbl := tbl_1 _ (List.mem_of_getElem? (i := 44) (by decide +kernel))
theorem tb641 : Cond.fieldLink RX11 143 "TwoPens$School" "look" "I" ∈ lw_tbl := tbl_1 _ (List.mem_of_getElem? (i := 47) (by decide +kernel))
theorem tb642 : Cond.fieldLink RX11 146 "TwoPens$School" "count" "I" ∈ lw_tbl := tbl_1 _ (List.mem_of_getElem? (i := 49) (by decide +kernel))
theorem tb643 : Cond.methodLink RX11 149 yX2_placeCount ∈ lw_tbl := tbl_3 _ (List.mem_of_getElem? (i := 148) (by decide +kernel))
theorem tb644 : Cond.instanceMethod yX2_placeCount ∈ lw_tbl := tbl_3 _ (List.mem_of_getElem? (i := 149) (by decide +kernel))
theorem tb645 : Cond.selects RX2 yX2_placeCount yX2_placeCount ∈ lw_tbl := tbl_3 _ (List.mem_of_getElem? (i := 150) (by decide +kernel))
theorem tb646 : Cond.code yX2_placeCount cX2_placeCount 1 (some .int) ∈ lw_tbl := tbl_3 _ (List.mem_of_getElem? (i := 151) (by decide +kernel))
theorem tb647 : Cond.fieldLink RX2 83 "TwoPens$School" "look" "I" ∈ lw_tbl := tbl_1 _ (List.mem_of_getElem? (i := 46) (by decide +kernel))
theorem tb648 : Cond.methodLink RX2 86 Lib.Math.min.name ∈ lw_tbl := tbl_3 _ (List.mem_of_getElem? (i := 153) (by decide +kernel))
theorem tb649 : Cond.fieldLink RX2 92 "TwoPens$School" "want" "I" ∈ lw_tbl := tbl_1 _ (List.mem_of_getElem? (i := 43) (by decide +kernel))
theorem tb650 : Cond.methodLink RX2 79 yX5_size ∈ lw_tbl := tbl_3 _ (List.mem_of_getElem? (i := 152) (by decide +kernel))
theorem tb651 : Cond.methodLink RX11 152 yX2_placeAt ∈ lw_tbl := tbl_3 _ (List.mem_of_getElem? (i := 154) (by decide +kernel))
theorem tb652 : Cond.instanceMethod yX2_placeAt ∈ lw_tbl := tbl_3 _ (List.mem_of_getElem? (i := 155) (by decide +kernel))
theorem tb653 : Cond.selects RX2 yX2_placeAt yX2_placeAt ∈ lw_tbl := tbl_3 _ (List.mem_of_getElem? (i := 156) (by decide +kernel))
theorem tb654 : Cond.code yX2_placeAt cX2_placeAt 2 (some .int) ∈ lw_tbl := tbl_3 _ (List.mem_of_getElem? (i := 157) (by decide +kernel))
theorem tb655 : Cond.methodLink RL 52 yX12_told ∈ lw_tbl := tbl_5 _ (List.mem_of_getElem? (i := 148) (by decide +kernel))
theorem tb656 : Cond.instanceMethod yX12_told ∈ lw_tbl := tbl_5 _ (List.mem_of_getElem? (i := 149) (by decide +kernel))
theorem tb657 : Cond.selects RX12 yX12_told yX12_told ∈ lw_tbl := tbl_5 _ (List.mem_of_getElem? (i := 150) (by decide +kernel))
theorem tb658 : Cond.code yX12_told cX12_told 2 (some .int) ∈ lw_tbl := tbl_5 _ (List.mem_of_getElem? (i := 151) (by decide +kernel))
theorem tb659 : Cond.fieldLink RX12 151 "TwoPensModel" "placeMany" "I" ∈ lw_tbl := tbl_4 _ (List.mem_of_getElem? (i := 203) (by decide +kernel))
theorem tb660 : Cond.methodLink RX12 163 yX12_looksForPlaces ∈ lw_tbl := tbl_5 _ (List.mem_of_getElem? (i := 152) (by decide +kernel))
theorem tb661 : Cond.instanceMethod yX12_looksForPlaces ∈ lw_tbl := tbl_5 _ (List.mem_of_getElem? (i := 154) (by decide +kernel))
theorem tb662 : Cond.selects RX12 yX12_looksForPlaces yX12_looksForPlaces ∈ lw_tbl := tbp_3 (yX12_looksForPlaces, 24) (List.mem_of_getElem? (i := 4) (by decide +kernel))
theorem tb663 : Cond.code yX12_looksForPlaces cX12_looksForPlaces 5 none ∈ lw_tbl := tbl_5 _ (List.mem_of_getElem? (i := 155) (by decide +kernel))
theorem tb664 : Cond.methodLink RX12 154 yX12_wantNow ∈ lw_tbl := tbl_5 _ (List.mem_of_getElem? (i := 156) (by decide +kernel))
theorem tb665 : Cond.instanceMethod yX12_wantNow ∈ lw_tbl := tbl_5 _ (List.mem_of_getElem? (i := 158) (by decide +kernel))
theorem tb666 : Cond.selects RX12 yX12_wantNow yX12_wantNow ∈ lw_tbl := tbp_3 (yX12_wantNow, 24) (List.mem_of_getElem? (i := 5) (by decide +kernel))
theorem tb667 : Cond.code yX12_wantNow cX12_wantNow 1 (some .int) ∈ lw_tbl := tbl_5 _ (List.mem_of_getElem? (i := 159) (by decide +kernel))
theorem tb668 : Cond.methodLink RX12 121 yX12_within ∈ lw_tbl := tbl_5 _ (List.mem_of_getElem? (i := 160) (by decide +kernel))
theorem tb669 : Cond.static yX12_within ∈ lw_tbl := tbl_5 _ (List.mem_of_getElem? (i := 161) (by decide +kernel))
theorem tb670 : Cond.code yX12_within cX12_within 3 (some .int) ∈ lw_tbl := tbl_5 _ (List.mem_of_getElem? (i := 162) (by decide +kernel))
theorem tb671 : Cond.methodLink RX12 157 yX12_lookNow ∈ lw_tbl := tbl_5 _ (List.mem_of_getElem? (i := 163) (by decide +kernel))
theorem tb672 : Cond.instanceMethod yX12_lookNow ∈ lw_tbl := tbl_5 _ (List.mem_of_getElem? (i := 165) (by decide +kernel))
theorem tb673 : Cond.selects RX12 yX12_lookNow yX12_lookNow ∈ lw_tbl := tbp_3 (yX12_lookNow, 24) (List.mem_of_getElem? (i := 6) (by decide +kernel))
theorem tb674 : Cond.code yX12_lookNow cX12_lookNow 1 (some .int) ∈ lw_tbl := tbl_5 _ (List.mem_of_getElem? (i := 166) (by decide +kernel))
theorem tb675 : Cond.methodLink RX12 160 yX12_isPlace ∈ lw_tbl := tbl_5 _ (List.mem_of_getElem? (i := 167) (by decide +kernel))
theorem tb676 : Cond.instanceMethod yX12_isPlace ∈ lw_tbl := tbl_5 _ (List.mem_of_getElem? (i := 169) (by decide +kernel))
theorem tb677 : Cond.selects RX12 yX12_isPlace yX12_isPlace ∈ lw_tbl := tbp_3 (yX12_isPlace, 24) (List.mem_of_getElem? (i := 7) (by decide +kernel))
theorem tb678 : Cond.code yX12_isPlace cX12_isPlace 4 (some .boolean) ∈ lw_tbl := tbl_5 _ (List.mem_of_getElem? (i := 170) (by decide +kernel))
theorem tb679 : Cond.methodLink RX12 166 yX12_missing ∈ lw_tbl := tbl_5 _ (List.mem_of_getElem? (i := 171) (by decide +kernel))
theorem tb680 : Cond.instanceMethod yX12_missing ∈ lw_tbl := tbl_5 _ (List.mem_of_getElem? (i := 173) (by decide +kernel))
theorem tb681 : Cond.selects RX12 yX12_missing yX12_missing ∈ lw_tbl := tbp_3 (yX12_missing, 24) (List.mem_of_getElem? (i := 8) (by decide +kernel))
theorem tb682 : Cond.code yX12_missing cX12_missing 3 (some .int) ∈ lw_tbl := tbl_5 _ (List.mem_of_getElem? (i := 174) (by decide +kernel))
theorem tb683 : Cond.methodLink RL 53 yX11_cost ∈ lw_tbl := tbl_3 _ (List.mem_of_getElem? (i := 158) (by decide +kernel))
theorem tb684 : Cond.instanceMethod yX11_cost ∈ lw_tbl := tbl_3 _ (List.mem_of_getElem? (i := 159) (by decide +kernel))
theorem tb685 : Cond.selects RX11 yX11_cost yX11_cost ∈ lw_tbl := tbl_3 _ (List.mem_of_getElem? (i := 160) (by decide +kernel))
theorem tb686 : Cond.code yX11_cost cX11_cost 4 (some .int) ∈ lw_tbl := tbl_3 _ (List.mem_of_getElem? (i := 161) (by decide +kernel))
theorem tb687 : Cond.methodLink RL 56 yX12_cost ∈ lw_tbl := tbl_5 _ (List.mem_of_getElem? (i := 175) (by decide +kernel))
theorem tb688 : Cond.instanceMethod yX12_cost ∈ lw_tbl := tbl_5 _ (List.mem_of_getElem? (i := 176) (by decide +kernel))
theorem tb689 : Cond.selects RX12 yX12_cost yX12_cost ∈ lw_tbl := tbl_5 _ (List.mem_of_getElem? (i := 177) (by decide +kernel))
theorem tb690 : Cond.code yX12_cost cX12_cost 4 (some .int) ∈ lw_tbl := tbl_5 _ (List.mem_of_getElem? (i := 178) (by decide +kernel))
theorem tb691 : Cond.methodLink RL 57 yX11_looks ∈ lw_tbl := tbl_3 _ (List.mem_of_getElem? (i := 162) (by decide +kernel))
theorem tb692 : Cond.instanceMethod yX11_looks ∈ lw_tbl := tbl_3 _ (List.mem_of_getElem? (i := 163) (by decide +kernel))
theorem tb693 : Cond.selects RX11 yX11_looks yX11_looks ∈ lw_tbl := tbl_3 _ (List.mem_of_getElem? (i := 164) (by decide +kernel))
theorem tb694 : Cond.code yX11_looks cX11_looks 2 (some .int) ∈ lw_tbl := tbl_3 _ (List.mem_of_getElem? (i := 165) (by decide +kernel))
theorem tb695 : Cond.fieldLink RX11 155 "TwoPens$Desk" "places" "LTwoPens$Numbers;" ∈ lw_tbl := tbl_1 _ (List.mem_of_getElem? (i := 96) (by decide +kernel))
theorem tb696 : Cond.methodLink RX11 158 yX11_isPlace ∈ lw_tbl := tbl_3 _ (List.mem_of_getElem? (i := 166) (by decide +kernel))
theorem tb697 : Cond.static yX11_isPlace ∈ lw_tbl := tbl_3 _ (List.mem_of_getElem? (i := 167) (by decide +kernel))
theorem tb698 : Cond.code yX11_isPlace cX11_isPlace 1 (some .boolean) ∈ lw_tbl := tbl_3 _ (List.mem_of_getElem? (i := 168) (by decide +kernel))
theorem tb699 : Cond.methodLink RL 60 yX12_looks ∈ lw_tbl := tbl_5 _ (List.mem_of_getElem? (i := 179) (by decide +kernel))
theorem tb700 : Cond.instanceMethod yX12_looks ∈ lw_tbl := tbl_5 _ (List.mem_of_getElem? (i := 180) (by decide +kernel))
theorem tb701 : Cond.selects RX12 yX12_looks yX12_looks ∈ lw_tbl := tbl_5 _ (List.mem_of_getElem? (i := 181) (by decide +kernel))
theorem tb702 : Cond.code yX12_looks cX12_looks 3 (some .int) ∈ lw_tbl := tbl_5 _ (List.mem_of_getElem? (i := 182) (by decide +kernel))
theorem tb703 : Cond.methodLink RL 61 yX11_safe ∈ lw_tbl := tbl_3 _ (List.mem_of_getElem? (i := 169) (by decide +kernel))
theorem tb704 : Cond.instanceMethod yX11_safe ∈ lw_tbl := tbl_3 _ (List.mem_of_getElem? (i := 170) (by decide +kernel))
theorem tb705 : Cond.selects RX11 yX11_safe yX11_safe ∈ lw_tbl := tbl_3 _ (List.mem_of_getElem? (i := 171) (by decide +kernel))
theorem tb706 : Cond.code yX11_safe cX11_safe 2 (some .long) ∈ lw_tbl := tbl_3 _ (List.mem_of_getElem? (i := 172) (by decide +kernel))
theorem tb707 : Cond.methodLink RX11 161 yX2_unseenNow ∈ lw_tbl := tbl_3 _ (List.mem_of_getElem? (i := 173) (by decide +kernel))
theorem tb708 : Cond.instanceMethod yX2_unseenNow ∈ lw_tbl := tbl_3 _ (List.mem_of_getElem? (i := 174) (by decide +kernel))
theorem tb709 : Cond.selects RX2 yX2_unseenNow yX2_unseenNow ∈ lw_tbl := tbl_3 _ (List.mem_of_getElem? (i := 175) (by decide +kernel))
theorem tb710 : Cond.code yX2_unseenNow cX2_unseenNow 1 (some .long) ∈ lw_tbl := tbl_3 _ (List.mem_of_getElem? (i := 176) (by decide +kernel))
theorem tb711 : Cond.methodLink RX2 112 yX2_unseenIf ∈ lw_tbl := tbl_3 _ (List.mem_of_getElem? (i := 177) (by decide +kernel))
theorem tb712 : Cond.instanceMethod yX2_unseenIf ∈ lw_tbl := tbl_3 _ (List.mem_of_getElem? (i := 178) (by decide +kernel))
theorem tb713 : Cond.selects RX2 yX2_unseenIf yX2_unseenIf ∈ lw_tbl := tbl_3 _ (List.mem_of_getElem? (i := 179) (by decide +kernel))
theorem tb714 : Cond.code yX2_unseenIf cX2_unseenIf 6 (some .long) ∈ lw_tbl := tbl_3 _ (List.mem_of_getElem? (i := 180) (by decide +kernel))
theorem tb715 : Cond.fieldLink RX2 116 "TwoPens$School" "count" "I" ∈ lw_tbl := tbl_1 _ (List.mem_of_getElem? (i := 50) (by decide +kernel))
theorem tb716 : Cond.methodLink RX2 119 yX2_writtenIf ∈ lw_tbl := tbl_3 _ (List.mem_of_getElem? (i := 181) (by decide +kernel))
theorem tb717 : Cond.instanceMethod yX2_writtenIf ∈ lw_tbl := tbl_3 _ (List.mem_of_getElem? (i := 183) (by decide +kernel))
theorem tb718 : Cond.selects RX2 yX2_writtenIf yX2_writtenIf ∈ lw_tbl := tbp_1 (yX2_writtenIf, 13) (List.mem_of_getElem? (i := 9) (by decide +kernel))
theorem tb719 : Cond.code yX2_writtenIf cX2_writtenIf 5 (some .int) ∈ lw_tbl := tbl_3 _ (List.mem_of_getElem? (i := 184) (by decide +kernel))
theorem tb720 : Cond.methodLink RX2 122 yX2_placeCount ∈ lw_tbl := tbl_3 _ (List.mem_of_getElem? (i := 185) (by decide +kernel))
theorem tb721 : Cond.methodLink RX2 125 yX2_placeAt ∈ lw_tbl := tbl_3 _ (List.mem_of_getElem? (i := 186) (by decide +kernel))
theorem tb722 : Cond.methodLink RX11 165 yX11_hundreds ∈ lw_tbl := tbl_3 _ (List.mem_of_getElem? (i := 187) (by decide +kernel))
theorem tb723 : Cond.static yX11_hundreds ∈ lw_tbl := tbl_3 _ (List.mem_of_getElem? (i := 188) (by decide +kernel))
theorem tb724 : Cond.code yX11_hundreds cX11_hundreds 4 (some .long) ∈ lw_tbl := tbl_3 _ (List.mem_of_getElem? (i := 189) (by decide +kernel))
theorem tb725 : Cond.constantLong RX11 257 (100) ∈ lw_tbl := tbl_3 _ (List.mem_of_getElem? (i := 190) (by decide +kernel))
theorem tb726 : Cond.methodLink RX11 169 yX11_lowest ∈ lw_tbl := tbl_3 _ (List.mem_of_getElem? (i := 191) (by decide +kernel))
theorem tb727 : Cond.static yX11_lowest ∈ lw_tbl := tbl_3 _ (List.mem_of_getElem? (i := 192) (by decide +kernel))
theorem tb728 : Cond.code yX11_lowest cX11_lowest 9 (some .long) ∈ lw_tbl := tbl_3 _ (List.mem_of_getElem? (i := 193) (by decide +kernel))
theorem tb729 : Cond.constantLong RX11 175 (-9223372036854775808) ∈ lw_tbl := tbl_3 _ (List.mem_of_getElem? (i := 194) (by decide +kernel))
theorem tb730 : Cond.methodLink RX11 259 Lib.MathLoose.abs_long.x ∈ lw_tbl := tbl_3 _ (List.mem_of_getElem? (i := 195) (by decide +kernel))
theorem tb731 : Cond.static Lib.MathLoose.abs_long.x ∈ lw_tbl := tbl_3 _ (List.mem_of_getElem? (i := 196) (by decide +kernel))
theorem tb732 : Cond.code Lib.MathLoose.abs_long.x Lib.MathLoose.abs_long.code 2 (some .long) ∈ lw_tbl := tbl_3 _ (List.mem_of_getElem? (i := 197) (by decide +kernel))
theorem tb733 : Cond.methodLink RX11 263 yX11_common ∈ lw_tbl := tbl_3 _ (List.mem_of_getElem? (i := 198) (by decide +kernel))
theorem tb734 : Cond.static yX11_common ∈ lw_tbl := tbl_3 _ (List.mem_of_getElem? (i := 199) (by decide +kernel))
theorem tb735 : Cond.code yX11_common cX11_common 7 (some .long) ∈ lw_tbl := tbl_3 _ (List.mem_of_getElem? (i := 200) (by decide +kernel))
theorem tb736 : Cond.methodLink RL 65 yX12_safe ∈ lw_tbl := tbl_5 _ (List.mem_of_getElem? (i := 183) (by decide +kernel))
theorem tb737 : Cond.instanceMethod yX12_safe ∈ lw_tbl := tbl_5 _ (List.mem_of_getElem? (i := 184) (by decide +kernel))
theorem tb738 : Cond.selects RX12 yX12_safe yX12_safe ∈ lw_tbl := tbl_5 _ (List.mem_of_getElem? (i := 185) (by decide +kernel))
theorem tb739 : Cond.code yX12_safe cX12_safe 2 (some .long) ∈ lw_tbl := tbl_5 _ (List.mem_of_getElem? (i := 186) (by decide +kernel))
theorem tb740 : Cond.constantLong RX12 189 (-9223372036854775808) ∈ lw_tbl := tbl_5 _ (List.mem_of_getElem? (i := 207) (by decide +kernel))
theorem tb741 : Cond.methodLink RX12 178 yX12_safeWays ∈ lw_tbl := tbl_5 _ (List.mem_of_getElem? (i := 187) (by decide +kernel))
theorem tb742 : Cond.instanceMethod yX12_safeWays ∈ lw_tbl := tbl_5 _ (List.mem_of_getElem? (i := 189) (by decide +kernel))
theorem tb743 : Cond.selects RX12 yX12_safeWays yX12_safeWays ∈ lw_tbl := tbp_3 (yX12_safeWays, 24) (List.mem_of_getElem? (i := 9) (by decide +kernel))
theorem tb744 : Cond.code yX12_safeWays cX12_safeWays 4 (some .long) ∈ lw_tbl := tbl_5 _ (List.mem_of_getElem? (i := 190) (by decide +kernel))
theorem tb745 : Cond.methodLink RX12 175 yX12_isShort ∈ lw_tbl := tbl_5 _ (List.mem_of_getElem? (i := 191) (by decide +kernel))
theorem tb746 : Cond.instanceMethod yX12_isShort ∈ lw_tbl := tbl_5 _ (List.mem_of_getElem? (i := 193) (by decide +kernel))
theorem tb747 : Cond.selects RX12 yX12_isShort yX12_isShort ∈ lw_tbl := tbp_3 (yX12_isShort, 24) (List.mem_of_getElem? (i := 10) (by decide +kernel))
theorem tb748 : Cond.code yX12_isShort cX12_isShort 1 (some .boolean) ∈ lw_tbl := tbl_5 _ (List.mem_of_getElem? (i := 194) (by decide +kernel))
theorem tb749 : Cond.methodLink RX12 169 yX12_doesCount ∈ lw_tbl := tbl_5 _ (List.mem_of_getElem? (i := 195) (by decide +kernel))
theorem tb750 : Cond.instanceMethod yX12_doesCount ∈ lw_tbl := tbl_5 _ (List.mem_of_getElem? (i := 197) (by decide +kernel))
theorem tb751 : Cond.selects RX12 yX12_doesCount yX12_doesCount ∈ lw_tbl := tbp_3 (yX12_doesCount, 24) (List.mem_of_getElem? (i := 11) (by decide +kernel))
theorem tb752 : Cond.code yX12_doesCount cX12_doesCount 1 (some .boolean) ∈ lw_tbl := tbl_5 _ (List.mem_of_getElem? (i := 198) (by decide +kernel))
theorem tb753 : Cond.methodLink RX12 182 yX12_allWays ∈ lw_tbl := tbl_5 _ (List.mem_of_getElem? (i := 199) (by decide +kernel))
theorem tb754 : Cond.instanceMethod yX12_allWays ∈ lw_tbl := tbl_5 _ (List.mem_of_getElem? (i := 201) (by decide +kernel))
theorem tb755 : Cond.selects RX12 yX12_allWays yX12_allWays ∈ lw_tbl := tbp_3 (yX12_allWays, 24) (List.mem_of_getElem? (i := 12) (by decide +kernel))
theorem tb756 : Cond.code yX12_allWays cX12_allWays 4 (some .long) ∈ lw_tbl := tbl_5 _ (List.mem_of_getElem? (i := 202) (by decide +kernel))
theorem tb757 : Cond.constantLong RX12 173 (100) ∈ lw_tbl := tbl_5 _ (List.mem_of_getElem? (i := 203) (by decide +kernel))
theorem tb758 : Cond.methodLink RX12 185 yX12_lowest ∈ lw_tbl := tbl_5 _ (List.mem_of_getElem? (i := 204) (by decide +kernel))
theorem tb759 : Cond.static yX12_lowest ∈ lw_tbl := tbl_5 _ (List.mem_of_getElem? (i := 205) (by decide +kernel))
theorem tb760 : Cond.code yX12_lowest cX12_lowest 11 (some .long) ∈ lw_tbl := tbl_5 _ (List.mem_of_getElem? (i := 206) (by decide +kernel))
theorem tb761 : Cond.methodLink RL 66 yX11_again ∈ lw_tbl := tbl_3 _ (List.mem_of_getElem? (i := 201) (by decide +kernel))
theorem tb762 : Cond.instanceMethod yX11_again ∈ lw_tbl := tbl_3 _ (List.mem_of_getElem? (i := 202) (by decide +kernel))
theorem tb763 : Cond.selects RX11 yX11_again yX11_again ∈ lw_tbl := tbl_3 _ (List.mem_of_getElem? (i := 203) (by decide +kernel))
theorem tb764 : Cond.code yX11_again cX11_again 4 (some .long) ∈ lw_tbl := tbl_3 _ (List.mem_of_getElem? (i := 204) (by decide +kernel))
theorem tb765 : Cond.constantLong RX11 173 (2) ∈ lw_tbl := tbl_3 _ (List.mem_of_getElem? (i := 205) (by decide +kernel))
theorem tb766 : Cond.methodLink RL 69 yX12_again ∈ lw_tbl := tbl_5 _ (List.mem_of_getElem? (i := 208) (by decide +kernel))
theorem tb767 : Cond.instanceMethod yX12_again ∈ lw_tbl := tbl_5 _ (List.mem_of_getElem? (i := 209) (by decide +kernel))
theorem tb768 : Cond.selects RX12 yX12_again yX12_again ∈ lw_tbl := tbl_5 _ (List.mem_of_getElem? (i := 210) (by decide +kernel))
theorem tb769 : Cond.code yX12_again cX12_again 4 (some .long) ∈ lw_tbl := tbl_5 _ (List.mem_of_getElem? (i := 211) (by decide +kernel))
theorem tb770 : Cond.constantLong RX12 191 (2) ∈ lw_tbl := tbl_5 _ (List.mem_of_getElem? (i := 212) (by decide +kernel))
theorem tb771 : Cond.methodLink RL 70 yX11_twice ∈ lw_tbl := tbl_3 _ (List.mem_of_getElem? (i := 206) (by decide +kernel))
theorem tb772 : Cond.instanceMethod yX11_twice ∈ lw_tbl := tbl_3 _ (List.mem_of_getElem? (i := 207) (by decide +kernel))
theorem tb773 : Cond.selects RX11 yX11_twice yX11_twice ∈ lw_tbl := tbl_3 _ (List.mem_of_getElem? (i := 208) (by decide +kernel))
theorem tb774 : Cond.code yX11_twice cX11_twice 8 (some .long) ∈ lw_tbl := tbl_3 _ (List.mem_of_getElem? (i := 209) (by decide +kernel))
theorem tb775 : Cond.methodLink RX11 177 Lib.Math.min.name ∈ lw_tbl := tbl_3 _ (List.mem_of_getElem? (i := 210) (by decide +kernel))
theorem tb776 : Cond.methodLink RL 74 yX12_twice ∈ lw_tbl := tbl_5 _ (List.mem_of_getElem? (i := 213) (by decide +kernel))
theorem tb777 : Cond.instanceMethod yX12_twice ∈ lw_tbl := tbl_5 _ (List.mem_of_getElem? (i := 214) (by decide +kernel))
theorem tb778 : Cond.selects RX12 yX12_twice yX12_twice ∈ lw_tbl := tbl_5 _ (List.mem_of_getElem? (i := 215) (by decide +kernel))
theorem tb779 : Cond.code yX12_twice cX12_twice 8 (some .long) ∈ lw_tbl := tbl_5 _ (List.mem_of_getElem? (i := 216) (by decide +kernel))
theorem tb780 : Cond.methodLink RL 75 yX11_quick ∈ lw_tbl := tbl_3 _ (List.mem_of_getElem? (i := 211) (by decide +kernel))
theorem tb781 : Cond.instanceMethod yX11_quick ∈ lw_tbl := tbl_3 _ (List.mem_of_getElem? (i := 212) (by decide +kernel))
theorem tb782 : Cond.selects RX11 yX11_quick yX11_quick ∈ lw_tbl := tbl_3 _ (List.mem_of_getElem? (i := 213) (by decide +kernel))
theorem tb783 : Cond.code yX11_quick cX11_quick 7 (some .int) ∈ lw_tbl := tbl_3 _ (List.mem_of_getElem? (i := 214) (by decide +kernel))
theorem tb784 : Cond.methodLink RX11 182 yX11_isPence ∈ lw_tbl := tbl_3 _ (List.mem_of_getElem? (i := 215) (by decide +kernel))
theorem tb785 : Cond.static yX11_isPence ∈ lw_tbl := tbl_3 _ (List.mem_of_getElem? (i := 216) (by decide +kernel))
theorem tb786 : Cond.code yX11_isPence cX11_isPence 1 (some .boolean) ∈ lw_tbl := tbl_3 _ (List.mem_of_getElem? (i := 217) (by decide +kernel))
theorem tb787 : Cond.methodLink RL 78 yX12_quick ∈ lw_tbl := tbl_5 _ (List.mem_of_getElem? (i := 217) (by decide +kernel))
theorem tb788 : Cond.instanceMethod yX12_quick ∈ lw_tbl := tbl_5 _ (List.mem_of_getElem? (i := 218) (by decide +kernel))
theorem tb789 : Cond.selects RX12 yX12_quick yX12_quick ∈ lw_tbl := tbl_5 _ (List.mem_of_getElem? (i := 219) (by decide +kernel))
theorem tb790 : Cond.code yX12_quick cX12_quick 8 (some .int) ∈ lw_tbl := tbl_5 _ (List.mem_of_getElem? (i := 220) (by decide +kernel))
theorem tb791 : Cond.methodLink RL 79 yX11_change ∈ lw_tbl := tbl_3 _ (List.mem_of_getElem? (i := 218) (by decide +kernel))
theorem tb792 : Cond.instanceMethod yX11_change ∈ lw_tbl := tbl_3 _ (List.mem_of_getElem? (i := 219) (by decide +kernel))
theorem tb793 : Cond.selects RX11 yX11_change yX11_change ∈ lw_tbl := tbl_3 _ (List.mem_of_getElem? (i := 220) (by decide +kernel))
theorem tb794 : Cond.code yX11_change cX11_change 6 (some .int) ∈ lw_tbl := tbl_3 _ (List.mem_of_getElem? (i := 221) (by decide +kernel))
theorem tb795 : Cond.constant RX11 185 (2147483647) ∈ lw_tbl := tbl_3 _ (List.mem_of_getElem? (i := 222) (by decide +kernel))
theorem tb796 : Cond.methodLink RX11 186 yX11_bestChangeAt ∈ lw_tbl := tbl_3 _ (List.mem_of_getElem? (i := 223) (by decide +kernel))
theorem tb797 : Cond.instanceMethod yX11_bestChangeAt ∈ lw_tbl := tbl_3 _ (List.mem_of_getElem? (i := 225) (by decide +kernel))
theorem tb798 : Cond.selects RX11 yX11_bestChangeAt yX11_bestChangeAt ∈ lw_tbl := tbp_1 (yX11_bestChangeAt, 4) (List.mem_of_getElem? (i := 10) (by decide +kernel))
theorem tb799 : Cond.code yX11_bestChangeAt cX11_bestChangeAt 13 (some .int) ∈ lw_tbl := tbl_3 _ (List.mem_of_getElem? (i := 226) (by decide +kernel))
theorem tb800 : Cond.methodLink RL 82 yX12_change ∈ lw_tbl := tbl_5 _ (List.mem_of_getElem? (i := 221) (by decide +kernel))
theorem tb801 : Cond.instanceMethod yX12_change ∈ lw_tbl := tbl_5 _ (List.mem_of_getElem? (i := 222) (by decide +kernel))
theorem tb802 : Cond.selects RX12 yX12_change yX12_change ∈ lw_tbl := tbl_5 _ (List.mem_of_getElem? (i := 223) (by decide +kernel))
theorem tb803 : Cond.code yX12_change cX12_change 7 (some .int) ∈ lw_tbl := tbl_5 _ (List.mem_of_getElem? (i := 224) (by decide +kernel))
theorem tb804 : Cond.fieldLink RX12 193 "TwoPensModel" "bestSeconds" "I" ∈ lw_tbl := tbl_4 _ (List.mem_of_getElem? (i := 204) (by decide +kernel))
theorem tb805 : Cond.fieldLink RX12 196 "TwoPensModel" "bestFirst" "I" ∈ lw_tbl := tbl_4 _ (List.mem_of_getElem? (i := 205) (by decide +kernel))
theorem tb806 : Cond.fieldLink RX12 199 "TwoPensModel" "bestAt" "I" ∈ lw_tbl := tbl_4 _ (List.mem_of_getElem? (i := 206) (by decide +kernel))
theorem tb807 : Cond.fieldLink RX12 202 "TwoPensModel" "bestSecond" "I" ∈ lw_tbl := tbl_4 _ (List.mem_of_getElem? (i := 207) (by decide +kernel))
theorem tb808 : Cond.methodLink RX12 205 yX12_triesChange ∈ lw_tbl := tbl_5 _ (List.mem_of_getElem? (i := 225) (by decide +kernel))
theorem tb809 : Cond.instanceMethod yX12_triesChange ∈ lw_tbl := tbl_5 _ (List.mem_of_getElem? (i := 227) (by decide +kernel))
theorem tb810 : Cond.selects RX12 yX12_triesChange yX12_triesChange ∈ lw_tbl := tbp_3 (yX12_triesChange, 24) (List.mem_of_getElem? (i := 13) (by decide +kernel))
theorem tb811 : Cond.code yX12_triesChange cX12_triesChange 7 none ∈ lw_tbl := tbl_5 _ (List.mem_of_getElem? (i := 228) (by decide +kernel))
theorem tb812 : Cond.methodLink RL 83 yX11_rests ∈ lw_tbl := tbl_3 _ (List.mem_of_getElem? (i := 227) (by decide +kernel))
theorem tb813 : Cond.instanceMethod yX11_rests ∈ lw_tbl := tbl_3 _ (List.mem_of_getElem? (i := 228) (by decide +kernel))
theorem tb814 : Cond.selects RX11 yX11_rests yX11_rests ∈ lw_tbl := tbl_3 _ (List.mem_of_getElem? (i := 229) (by decide +kernel))
theorem tb815 : Cond.code yX11_rests cX11_rests 7 (some .int) ∈ lw_tbl := tbl_3 _ (List.mem_of_getElem? (i := 230) (by decide +kernel))
theorem tb816 : Cond.methodLink RX11 190 yX11_withRests ∈ lw_tbl := tbl_3 _ (List.mem_of_getElem? (i := 231) (by decide +kernel))
theorem tb817 : Cond.instanceMethod yX11_withRests ∈ lw_tbl := tbl_3 _ (List.mem_of_getElem? (i := 233) (by decide +kernel))
theorem tb818 : Cond.selects RX11 yX11_withRests yX11_withRests ∈ lw_tbl := tbp_1 (yX11_withRests, 4) (List.mem_of_getElem? (i := 11) (by decide +kernel))
theorem tb819 : Cond.code yX11_withRests cX11_withRests 7 (some .int) ∈ lw_tbl := tbl_3 _ (List.mem_of_getElem? (i := 234) (by decide +kernel))
theorem tb820 : Cond.methodLink RL 87 yX12_rests ∈ lw_tbl := tbl_5 _ (List.mem_of_getElem? (i := 229) (by decide +kernel))
theorem tb821 : Cond.instanceMethod yX12_rests ∈ lw_tbl := tbl_5 _ (List.mem_of_getElem? (i := 230) (by decide +kernel))
theorem tb822 : Cond.selects RX12 yX12_rests yX12_rests ∈ lw_tbl := tbl_5 _ (List.mem_of_getElem? (i := 231) (by decide +kernel))
theorem tb823 : Cond.code yX12_rests cX12_rests 10 (some .int) ∈ lw_tbl := tbl_5 _ (List.mem_of_getElem? (i := 232) (by decide +kernel))
theorem tb824 : Cond.constant RX12 209 (1000000) ∈ lw_tbl := tbl_5 _ (List.mem_of_getElem? (i := 233) (by decide +kernel))
theorem tb825 : Cond.methodLink RL 88 yX11_mend ∈ lw_tbl := tbl_3 _ (List.mem_of_getElem? (i := 235) (by decide +kernel))
theorem tb826 : Cond.instanceMethod yX11_mend ∈ lw_tbl := tbl_3 _ (List.mem_of_getElem? (i := 236) (by decide +kernel))
theorem tb827 : Cond.selects RX11 yX11_mend yX11_mend ∈ lw_tbl := tbl_3 _ (List.mem_of_getElem? (i := 237) (by decide +kernel))
theorem tb828 : Cond.code yX11_mend cX11_mend 9 (some .int) ∈ lw_tbl := tbl_3 _ (List.mem_of_getElem? (i := 238) (by decide +kernel))
theorem tb829 : Cond.methodLink RX11 194 yX2_unseenIf ∈ lw_tbl := tbl_3 _ (List.mem_of_getElem? (i := 239) (by decide +kernel))
theorem tb830 : Cond.methodLink RL 91 yX12_mend ∈ lw_tbl := tbl_5 _ (List.mem_of_getElem? (i := 234) (by decide +kernel))
theorem tb831 : Cond.instanceMethod yX12_mend ∈ lw_tbl := tbl_5 _ (List.mem_of_getElem? (i := 235) (by decide +kernel))
theorem tb832 : Cond.selects RX12 yX12_mend yX12_mend ∈ lw_tbl := tbl_5 _ (List.mem_of_getElem? (i := 236) (by decide +kernel))
theorem tb833 : Cond.code yX12_mend cX12_mend 10 (some .int) ∈ lw_tbl := tbl_5 _ (List.mem_of_getElem? (i := 237) (by decide +kernel))
theorem tb834 : Cond.methodLink RL 92 yX11_where ∈ lw_tbl := tbl_4 _ (List.mem_of_getElem? (i := 0) (by decide +kernel))
theorem tb835 : Cond.instanceMethod yX11_where ∈ lw_tbl := tbl_4 _ (List.mem_of_getElem? (i := 1) (by decide +kernel))
theorem tb836 : Cond.selects RX11 yX11_where yX11_where ∈ lw_tbl := tbl_4 _ (List.mem_of_getElem? (i := 2) (by decide +kernel))
theorem tb837 : Cond.code yX11_where cX11_where 5 (some .int) ∈ lw_tbl := tbl_4 _ (List.mem_of_getElem? (i := 3) (by decide +kernel))
theorem tb838 : Cond.methodLink RX11 198 yX11_nextWhere ∈ lw_tbl := tbl_4 _ (List.mem_of_getElem? (i := 4) (by decide +kernel))
theorem tb839 : Cond.instanceMethod yX11_nextWhere ∈ lw_tbl := tbl_4 _ (List.mem_of_getElem? (i := 6) (by decide +kernel))
theorem tb840 : Cond.selects RX11 yX11_nextWhere yX11_nextWhere ∈ lw_tbl := tbp_1 (yX11_nextWhere, 4) (List.mem_of_getElem? (i := 12) (by decide +kernel))
theorem tb841 : Cond.code yX11_nextWhere cX11_nextWhere 8 (some .int) ∈ lw_tbl := tbl_4 _ (List.mem_of_getElem? (i := 7) (by decide +kernel))
theorem tb842 : Cond.methodLink RL 95 yX12_where ∈ lw_tbl := tbl_5 _ (List.mem_of_getElem? (i := 238) (by decide +kernel))
theorem tb843 : Cond.instanceMethod yX12_where ∈ lw_tbl := tbl_5 _ (List.mem_of_getElem? (i := 239) (by decide +kernel))
theorem tb844 : Cond.selects RX12 yX12_where yX12_where ∈ lw_tbl := tbl_6 _ (List.mem_of_getElem? (i := 0) (by decide +kernel))
theorem tb845 : Cond.code yX12_where cX12_where 6 (some .int) ∈ lw_tbl := tbl_6 _ (List.mem_of_getElem? (i := 1) (by decide +kernel))
theorem tb846 : Cond.methodLink RL 96 yX11_left ∈ lw_tbl := tbl_4 _ (List.mem_of_getElem? (i := 8) (by decide +kernel))
theorem tb847 : Cond.instanceMethod yX11_left ∈ lw_tbl := tbl_4 _ (List.mem_of_getElem? (i := 9) (by decide +kernel))
theorem tb848 : Cond.selects RX11 yX11_left yX11_left ∈ lw_tbl := tbl_4 _ (List.mem_of_getElem? (i := 10) (by decide +kernel))
theorem tb849 : Cond.code yX11_left cX11_left 3 (some .int) ∈ lw_tbl := tbl_4 _ (List.mem_of_getElem? (i := 11) (by decide +kernel))
theorem tb850 : Cond.methodLink RL 99 yX12_left ∈ lw_tbl := tbl_6 _ (List.mem_of_getElem? (i := 2) (by decide +kernel))
theorem tb851 : Cond.instanceMethod yX12_left ∈ lw_tbl := tbl_6 _ (List.mem_of_getElem? (i := 3) (by decide +kernel))
theorem tb852 : Cond.selects RX12 yX12_left yX12_left ∈ lw_tbl := tbl_6 _ (List.mem_of_getElem? (i := 4) (by decide +kernel))
theorem tb853 : Cond.code yX12_left cX12_left 3 (some .int) ∈ lw_tbl := tbl_6 _ (List.mem_of_getElem? (i := 5) (by decide +kernel))
theorem tb854 : Cond.methodLink RL 100 yX11_longest ∈ lw_tbl := tbl_4 _ (List.mem_of_getElem? (i := 12) (by decide +kernel))
theorem tb855 : Cond.instanceMethod yX11_longest ∈ lw_tbl := tbl_4 _ (List.mem_of_getElem? (i := 13) (by decide +kernel))
theorem tb856 : Cond.selects RX11 yX11_longest yX11_longest ∈ lw_tbl := tbl_4 _ (List.mem_of_getElem? (i := 14) (by decide +kernel))
theorem tb857 : Cond.code yX11_longest cX11_longest 7 (some .int) ∈ lw_tbl := tbl_4 _ (List.mem_of_getElem? (i := 15) (by decide +kernel))
theorem tb858 : Cond.methodLink RL 103 yX12_longest ∈ lw_tbl := tbl_6 _ (List.mem_of_getElem? (i := 6) (by decide +kernel))
theorem tb859 : Cond.instanceMethod yX12_longest ∈ lw_tbl := tbl_6 _ (List.mem_of_getElem? (i := 7) (by decide +kernel))
theorem tb860 : Cond.selects RX12 yX12_longest yX12_longest ∈ lw_tbl := tbl_6 _ (List.mem_of_getElem? (i := 8) (by decide +kernel))
theorem tb861 : Cond.code yX12_longest cX12_longest 6 (some .int) ∈ lw_tbl := tbl_6 _ (List.mem_of_getElem? (i := 9) (by decide +kernel))
theorem tb862 : Cond.methodLink RL 104 yX11_show ∈ lw_tbl := tbl_4 _ (List.mem_of_getElem? (i := 16) (by decide +kernel))
theorem tb863 : Cond.instanceMethod yX11_show ∈ lw_tbl := tbl_4 _ (List.mem_of_getElem? (i := 17) (by decide +kernel))
theorem tb864 : Cond.selects RX11 yX11_show yX11_show ∈ lw_tbl := tbl_4 _ (List.mem_of_getElem? (i := 18) (by decide +kernel))
theorem tb865 : Cond.code yX11_show cX11_show 2 (some .int) ∈ lw_tbl := tbl_4 _ (List.mem_of_getElem? (i := 19) (by decide +kernel))
theorem tb866 : Cond.methodLink RL 107 yX12_show ∈ lw_tbl := tbl_6 _ (List.mem_of_getElem? (i := 10) (by decide +kernel))
theorem tb867 : Cond.instanceMethod yX12_show ∈ lw_tbl := tbl_6 _ (List.mem_of_getElem? (i := 11) (by decide +kernel))
theorem tb868 : Cond.selects RX12 yX12_show yX12_show ∈ lw_tbl := tbl_6 _ (List.mem_of_getElem? (i := 12) (by decide +kernel))
theorem tb869 : Cond.code yX12_show cX12_show 2 (some .int) ∈ lw_tbl := tbl_6 _ (List.mem_of_getElem? (i := 13) (by decide +kernel))
theorem tb870 : Cond.methodLink RL 108 yX11_whose ∈ lw_tbl := tbl_4 _ (List.mem_of_getElem? (i := 20) (by decide +kernel))
theorem tb871 : Cond.instanceMethod yX11_whose ∈ lw_tbl := tbl_4 _ (List.mem_of_getElem? (i := 21) (by decide +kernel))
theorem tb872 : Cond.selects RX11 yX11_whose yX11_whose ∈ lw_tbl := tbl_4 _ (List.mem_of_getElem? (i := 22) (by decide +kernel))
theorem tb873 : Cond.code yX11_whose cX11_whose 3 (some .int) ∈ lw_tbl := tbl_4 _ (List.mem_of_getElem? (i := 23) (by decide +kernel))
theorem tb874 : Cond.methodLink RX11 201 yX11_couldBeBy ∈ lw_tbl := tbl_4 _ (List.mem_of_getElem? (i := 24) (by decide +kernel))
theorem tb875 : Cond.instanceMethod yX11_couldBeBy ∈ lw_tbl := tbl_4 _ (List.mem_of_getElem? (i := 26) (by decide +kernel))
theorem tb876 : Cond.selects RX11 yX11_couldBeBy yX11_couldBeBy ∈ lw_tbl := tbp_1 (yX11_couldBeBy, 4) (List.mem_of_getElem? (i := 13) (by decide +kernel))
theorem tb877 : Cond.code yX11_couldBeBy cX11_couldBeBy 4 (some .boolean) ∈ lw_tbl := tbl_4 _ (List.mem_of_getElem? (i := 27) (by decide +kernel))
theorem tb878 : Cond.methodLink RX11 267 yX2_signIf ∈ lw_tbl := tbl_4 _ (List.mem_of_getElem? (i := 28) (by decide +kernel))
theorem tb879 : Cond.methodLink RL 111 yX12_whose ∈ lw_tbl := tbl_6 _ (List.mem_of_getElem? (i := 14) (by decide +kernel))
theorem tb880 : Cond.instanceMethod yX12_whose ∈ lw_tbl := tbl_6 _ (List.mem_of_getElem? (i := 15) (by decide +kernel))
theorem tb881 : Cond.selects RX12 yX12_whose yX12_whose ∈ lw_tbl := tbl_6 _ (List.mem_of_getElem? (i := 16) (by decide +kernel))
theorem tb882 : Cond.code yX12_whose cX12_whose 5 (some .int) ∈ lw_tbl := tbl_6 _ (List.mem_of_getElem? (i := 17) (by decide +kernel))
theorem tb883 : Cond.methodLink RX12 210 yX12_wouldShow ∈ lw_tbl := tbl_6 _ (List.mem_of_getElem? (i := 18) (by decide +kernel))
theorem tb884 : Cond.instanceMethod yX12_wouldShow ∈ lw_tbl := tbl_6 _ (List.mem_of_getElem? (i := 20) (by decide +kernel))
theorem tb885 : Cond.selects RX12 yX12_wouldShow yX12_wouldShow ∈ lw_tbl := tbp_3 (yX12_wouldShow, 24) (List.mem_of_getElem? (i := 14) (by decide +kernel))
theorem tb886 : Cond.code yX12_wouldShow cX12_wouldShow 5 (some .boolean) ∈ lw_tbl := tbl_6 _ (List.mem_of_getElem? (i := 21) (by decide +kernel))
theorem tb887 : Cond.methodLink RL 112 yX11_wanted ∈ lw_tbl := tbl_4 _ (List.mem_of_getElem? (i := 29) (by decide +kernel))
theorem tb888 : Cond.instanceMethod yX11_wanted ∈ lw_tbl := tbl_4 _ (List.mem_of_getElem? (i := 30) (by decide +kernel))
theorem tb889 : Cond.selects RX11 yX11_wanted yX11_wanted ∈ lw_tbl := tbl_4 _ (List.mem_of_getElem? (i := 31) (by decide +kernel))
theorem tb890 : Cond.code yX11_wanted cX11_wanted 2 (some .int) ∈ lw_tbl := tbl_4 _ (List.mem_of_getElem? (i := 32) (by decide +kernel))
theorem tb891 : Cond.fieldLink RX11 204 "TwoPens$Desk" "days" "LTwoPens$Numbers;" ∈ lw_tbl := tbl_1 _ (List.mem_of_getElem? (i := 100) (by decide +kernel))
theorem tb892 : Cond.methodLink RL 115 yX12_wanted ∈ lw_tbl := tbl_6 _ (List.mem_of_getElem? (i := 22) (by decide +kernel))
theorem tb893 : Cond.instanceMethod yX12_wanted ∈ lw_tbl := tbl_6 _ (List.mem_of_getElem? (i := 23) (by decide +kernel))
theorem tb894 : Cond.selects RX12 yX12_wanted yX12_wanted ∈ lw_tbl := tbl_6 _ (List.mem_of_getElem? (i := 24) (by decide +kernel))
theorem tb895 : Cond.code yX12_wanted cX12_wanted 2 (some .int) ∈ lw_tbl := tbl_6 _ (List.mem_of_getElem? (i := 25) (by decide +kernel))
theorem tb896 : Cond.methodLink RL 116 yX11_stock ∈ lw_tbl := tbl_4 _ (List.mem_of_getElem? (i := 33) (by decide +kernel))
theorem tb897 : Cond.instanceMethod yX11_stock ∈ lw_tbl := tbl_4 _ (List.mem_of_getElem? (i := 34) (by decide +kernel))
theorem tb898 : Cond.selects RX11 yX11_stock yX11_stock ∈ lw_tbl := tbl_4 _ (List.mem_of_getElem? (i := 35) (by decide +kernel))
theorem tb899 : Cond.code yX11_stock cX11_stock 3 (some .int) ∈ lw_tbl := tbl_4 _ (List.mem_of_getElem? (i := 36) (by decide +kernel))
theorem tb900 : Cond.methodLink RX11 207 yX11_isCost ∈ lw_tbl := tbl_4 _ (List.mem_of_getElem? (i := 37) (by decide +kernel))
theorem tb901 : Cond.static yX11_isCost ∈ lw_tbl := tbl_4 _ (List.mem_of_getElem? (i := 38) (by decide +kernel))
theorem tb902 : Cond.code yX11_isCost cX11_isCost 1 (some .boolean) ∈ lw_tbl := tbl_4 _ (List.mem_of_getElem? (i := 39) (by decide +kernel))
theorem tb903 : Cond.methodLink RX11 210 yX11_bestStock ∈ lw_tbl := tbl_4 _ (List.mem_of_getElem? (i := 40) (by decide +kernel))
theorem tb904 : Cond.instanceMethod yX11_bestStock ∈ lw_tbl := tbl_4 _ (List.mem_of_getElem? (i := 42) (by decide +kernel))
theorem tb905 : Cond.selects RX11 yX11_bestStock yX11_bestStock ∈ lw_tbl := tbp_1 (yX11_bestStock, 4) (List.mem_of_getElem? (i := 14) (by decide +kernel))
theorem tb906 : Cond.code yX11_bestStock cX11_bestStock 5 (some .int) ∈ lw_tbl := tbl_4 _ (List.mem_of_getElem? (i := 43) (by decide +kernel))
theorem tb907 : Cond.methodLink RX11 213 yX11_costOfStock ∈ lw_tbl := tbl_4 _ (List.mem_of_getElem? (i := 44) (by decide +kernel))
theorem tb908 : Cond.instanceMethod yX11_costOfStock ∈ lw_tbl := tbl_4 _ (List.mem_of_getElem? (i := 46) (by decide +kernel))
theorem tb909 : Cond.selects RX11 yX11_costOfStock yX11_costOfStock ∈ lw_tbl := tbp_1 (yX11_costOfStock, 4) (List.mem_of_getElem? (i := 15) (by decide +kernel))
theorem tb910 : Cond.code yX11_costOfStock cX11_costOfStock 7 (some .int) ∈ lw_tbl := tbl_4 _ (List.mem_of_getElem? (i := 47) (by decide +kernel))
theorem tb911 : Cond.methodLink RL 119 yX12_stock ∈ lw_tbl := tbl_6 _ (List.mem_of_getElem? (i := 26) (by decide +kernel))
theorem tb912 : Cond.instanceMethod yX12_stock ∈ lw_tbl := tbl_6 _ (List.mem_of_getElem? (i := 27) (by decide +kernel))
theorem tb913 : Cond.selects RX12 yX12_stock yX12_stock ∈ lw_tbl := tbl_6 _ (List.mem_of_getElem? (i := 28) (by decide +kernel))
theorem tb914 : Cond.code yX12_stock cX12_stock 3 (some .int) ∈ lw_tbl := tbl_6 _ (List.mem_of_getElem? (i := 29) (by decide +kernel))
theorem tb915 : Cond.methodLink RX12 217 yX12_stockOf ∈ lw_tbl := tbl_6 _ (List.mem_of_getElem? (i := 30) (by decide +kernel))
theorem tb916 : Cond.instanceMethod yX12_stockOf ∈ lw_tbl := tbl_6 _ (List.mem_of_getElem? (i := 32) (by decide +kernel))
theorem tb917 : Cond.selects RX12 yX12_stockOf yX12_stockOf ∈ lw_tbl := tbp_3 (yX12_stockOf, 24) (List.mem_of_getElem? (i := 15) (by decide +kernel))
theorem tb918 : Cond.code yX12_stockOf cX12_stockOf 8 (some .int) ∈ lw_tbl := tbl_6 _ (List.mem_of_getElem? (i := 33) (by decide +kernel))
theorem tb919 : Cond.fieldLink RX12 214 "TwoPensModel" "leastCost" "I" ∈ lw_tbl := tbl_4 _ (List.mem_of_getElem? (i := 209) (by decide +kernel))
theorem tb920 : Cond.methodLink RL 120 yX11_mean ∈ lw_tbl := tbl_4 _ (List.mem_of_getElem? (i := 48) (by decide +kernel))
theorem tb921 : Cond.instanceMethod yX11_mean ∈ lw_tbl := tbl_4 _ (List.mem_of_getElem? (i := 49) (by decide +kernel))
theorem tb922 : Cond.selects RX11 yX11_mean yX11_mean ∈ lw_tbl := tbl_4 _ (List.mem_of_getElem? (i := 50) (by decide +kernel))
theorem tb923 : Cond.code yX11_mean cX11_mean 4 (some .long) ∈ lw_tbl := tbl_4 _ (List.mem_of_getElem? (i := 51) (by decide +kernel))
theorem tb924 : Cond.methodLink RL 124 yX12_mean ∈ lw_tbl := tbl_6 _ (List.mem_of_getElem? (i := 34) (by decide +kernel))
theorem tb925 : Cond.instanceMethod yX12_mean ∈ lw_tbl := tbl_6 _ (List.mem_of_getElem? (i := 35) (by decide +kernel))
theorem tb926 : Cond.selects RX12 yX12_mean yX12_mean ∈ lw_tbl := tbl_6 _ (List.mem_of_getElem? (i := 36) (by decide +kernel))
theorem tb927 : Cond.code yX12_mean cX12_mean 4 (some .long) ∈ lw_tbl := tbl_6 _ (List.mem_of_getElem? (i := 37) (by decide +kernel))
theorem tb928 : Cond.methodLink RL 125 yX11_table ∈ lw_tbl := tbl_4 _ (List.mem_of_getElem? (i := 52) (by decide +kernel))
theorem tb929 : Cond.instanceMethod yX11_table ∈ lw_tbl := tbl_4 _ (List.mem_of_getElem? (i := 53) (by decide +kernel))
theorem tb930 : Cond.selects RX11 yX11_table yX11_table ∈ lw_tbl := tbl_4 _ (List.mem_of_getElem? (i := 54) (by decide +kernel))
theorem tb931 : Cond.code yX11_table cX11_table 8 (some .long) ∈ lw_tbl := tbl_4 _ (List.mem_of_getElem? (i := 55) (by decide +kernel))
theorem tb932 : Cond.methodLink RX11 219 Lib.Math.max.name ∈ lw_tbl := tbl_4 _ (List.mem_of_getElem? (i := 59) (by decide +kernel))
theorem tb933 : Cond.methodLink RX11 216 yX11_isEntry ∈ lw_tbl := tbl_4 _ (List.mem_of_getElem? (i := 56) (by decide +kernel))
theorem tb934 : Cond.static yX11_isEntry ∈ lw_tbl := tbl_4 _ (List.mem_of_getElem? (i := 57) (by decide +kernel))
theorem tb935 : Cond.code yX11_isEntry cX11_isEntry 1 (some .boolean) ∈ lw_tbl := tbl_4 _ (List.mem_of_getElem? (i := 58) (by decide +kernel))
theorem tb936 : Cond.methodLink RL 129 yX12_table ∈ lw_tbl := tbl_6 _ (List.mem_of_getElem? (i := 38) (by decide +kernel))
theorem tb937 : Cond.instanceMethod yX12_table ∈ lw_tbl := tbl_6 _ (List.mem_of_getElem? (i := 39) (by decide +kernel))
theorem tb938 : Cond.selects RX12 yX12_table yX12_table ∈ lw_tbl := tbl_6 _ (List.mem_of_getElem? (i := 40) (by decide +kernel))
theorem tb939 : Cond.code yX12_table cX12_table 16 (some .long) ∈ lw_tbl := tbl_6 _ (List.mem_of_getElem? (i := 41) (by decide +kernel))
theorem tb940 : Cond.methodLink RX12 220 yX12_isPaid ∈ lw_tbl := tbl_6 _ (List.mem_of_getElem? (i := 42) (by decide +kernel))
theorem tb941 : Cond.static yX12_isPaid ∈ lw_tbl := tbl_6 _ (List.mem_of_getElem? (i := 43) (by decide +kernel))
theorem tb942 : Cond.code yX12_isPaid cX12_isPaid 1 (some .boolean) ∈ lw_tbl := tbl_6 _ (List.mem_of_getElem? (i := 44) (by decide +kernel))
theorem tb943 : Cond.methodLink RL 130 yX11_book ∈ lw_tbl := tbl_4 _ (List.mem_of_getElem? (i := 60) (by decide +kernel))
theorem tb944 : Cond.instanceMethod yX11_book ∈ lw_tbl := tbl_4 _ (List.mem_of_getElem? (i := 61) (by decide +kernel))
theorem tb945 : Cond.selects RX11 yX11_book yX11_book ∈ lw_tbl := tbl_4 _ (List.mem_of_getElem? (i := 62) (by decide +kernel))
theorem tb946 : Cond.code yX11_book cX11_book 4 (some .int) ∈ lw_tbl := tbl_4 _ (List.mem_of_getElem? (i := 63) (by decide +kernel))
theorem tb947 : Cond.fieldLink RX11 222 "TwoPens$Desk" "bookPlaces" "LTwoPens$Numbers;" ∈ lw_tbl := tbl_1 _ (List.mem_of_getElem? (i := 102) (by decide +kernel))
theorem tb948 : Cond.fieldLink RX11 225 "TwoPens$Desk" "bookWays" "LTwoPens$Numbers;" ∈ lw_tbl := tbl_1 _ (List.mem_of_getElem? (i := 104) (by decide +kernel))
theorem tb949 : Cond.methodLink RL 133 yX12_book ∈ lw_tbl := tbl_6 _ (List.mem_of_getElem? (i := 45) (by decide +kernel))
theorem tb950 : Cond.instanceMethod yX12_book ∈ lw_tbl := tbl_6 _ (List.mem_of_getElem? (i := 46) (by decide +kernel))
theorem tb951 : Cond.selects RX12 yX12_book yX12_book ∈ lw_tbl := tbl_6 _ (List.mem_of_getElem? (i := 47) (by decide +kernel))
theorem tb952 : Cond.code yX12_book cX12_book 3 (some .int) ∈ lw_tbl := tbl_6 _ (List.mem_of_getElem? (i := 48) (by decide +kernel))
theorem tb953 : Cond.methodLink RL 134 yX11_looked ∈ lw_tbl := tbl_4 _ (List.mem_of_getElem? (i := 64) (by decide +kernel))
theorem tb954 : Cond.instanceMethod yX11_looked ∈ lw_tbl := tbl_4 _ (List.mem_of_getElem? (i := 65) (by decide +kernel))
theorem tb955 : Cond.selects RX11 yX11_looked yX11_looked ∈ lw_tbl := tbl_4 _ (List.mem_of_getElem? (i := 66) (by decide +kernel))
theorem tb956 : Cond.code yX11_looked cX11_looked 2 (some .int) ∈ lw_tbl := tbl_4 _ (List.mem_of_getElem? (i := 67) (by decide +kernel))
theorem tb957 : Cond.methodLink RL 137 yX12_looked ∈ lw_tbl := tbl_6 _ (List.mem_of_getElem? (i := 49) (by decide +kernel))
theorem tb958 : Cond.instanceMethod yX12_looked ∈ lw_tbl := tbl_6 _ (List.mem_of_getElem? (i := 50) (by decide +kernel))
theorem tb959 : Cond.selects RX12 yX12_looked yX12_looked ∈ lw_tbl := tbl_6 _ (List.mem_of_getElem? (i := 51) (by decide +kernel))
theorem tb960 : Cond.code yX12_looked cX12_looked 2 (some .int) ∈ lw_tbl := tbl_6 _ (List.mem_of_getElem? (i := 52) (by decide +kernel))
theorem tb961 : Cond.methodLink RL 138 yX11_act ∈ lw_tbl := tbl_4 _ (List.mem_of_getElem? (i := 68) (by decide +kernel))
theorem tb962 : Cond.instanceMethod yX11_act ∈ lw_tbl := tbl_4 _ (List.mem_of_getElem? (i := 69) (by decide +kernel))
theorem tb963 : Cond.selects RX11 yX11_act yX11_act ∈ lw_tbl := tbl_4 _ (List.mem_of_getElem? (i := 70) (by decide +kernel))
theorem tb964 : Cond.code yX11_act cX11_act 5 (some .int) ∈ lw_tbl := tbl_4 _ (List.mem_of_getElem? (i := 71) (by decide +kernel))
theorem tb965 : Cond.methodLink RX11 228 yX8_clear ∈ lw_tbl := tbl_4 _ (List.mem_of_getElem? (i := 72) (by decide +kernel))
theorem tb966 : Cond.instanceMethod yX8_clear ∈ lw_tbl := tbl_4 _ (List.mem_of_getElem? (i := 73) (by decide +kernel))
theorem tb967 : Cond.selects RX8 yX8_clear yX8_clear ∈ lw_tbl := tbl_4 _ (List.mem_of_getElem? (i := 74) (by decide +kernel))
theorem tb968 : Cond.code yX8_clear cX8_clear 1 none ∈ lw_tbl := tbl_4 _ (List.mem_of_getElem? (i := 75) (by decide +kernel))
theorem tb969 : Cond.fieldLink RX8 15 "TwoPens$Trace" "all" "I" ∈ lw_tbl := tbl_1 _ (List.mem_of_getElem? (i := 139) (by decide +kernel))
theorem tb970 : Cond.methodLink RX11 229 ⟨"TwoPens$Line", "writes", "(ILTwoPens$Trace;)I"⟩ ∈ lw_tbl := tbl_4 _ (List.mem_of_getElem? (i := 76) (by decide +kernel))
theorem tb971 : Cond.sameMethod "TwoPens$Line" "TwoPens$Line" "writes" "(ILTwoPens$Trace;)I" ∈ lw_tbl := tbl_4 _ (List.mem_of_getElem? (i := 79) (by decide +kernel))
theorem tb972 : Cond.selects RX0 ⟨"TwoPens$Line", "writes", "(ILTwoPens$Trace;)I"⟩ yX4_writes ∈ lw_tbl := tbl_4 _ (List.mem_of_getElem? (i := 80) (by decide +kernel))
theorem tb973 : Cond.instanceMethod yX4_writes ∈ lw_tbl := tbl_4 _ (List.mem_of_getElem? (i := 77) (by decide +kernel))
theorem tb974 : Cond.code yX4_writes cX4_writes 3 (some .int) ∈ lw_tbl := tbl_4 _ (List.mem_of_getElem? (i := 99) (by decide +kernel))
theorem tb975 : Cond.methodLink RX4 22 yX8_ran ∈ lw_tbl := tbl_4 _ (List.mem_of_getElem? (i := 100) (by decide +kernel))
theorem tb976 : Cond.instanceMethod yX8_ran ∈ lw_tbl := tbl_4 _ (List.mem_of_getElem? (i := 85) (by decide +kernel))
theorem tb977 : Cond.selects RX8 yX8_ran yX8_ran ∈ lw_tbl := tbl_4 _ (List.mem_of_getElem? (i := 86) (by decide +kernel))
theorem tb978 : Cond.code yX8_ran cX8_ran 2 none ∈ lw_tbl := tbl_4 _ (List.mem_of_getElem? (i := 87) (by decide +kernel))
theorem tb979 : Cond.instanceMethod ⟨"TwoPens$Line", "writes", "(ILTwoPens$Trace;)I"⟩ ∈ lw_tbl := tbl_4 _ (List.mem_of_getElem? (i := 77) (by decide +kernel))
theorem tb980 : Cond.selects RX1 ⟨"TwoPens$Line", "writes", "(ILTwoPens$Trace;)I"⟩ yX1_writes ∈ lw_tbl := tbl_4 _ (List.mem_of_getElem? (i := 81) (by decide +kernel))
theorem tb981 : Cond.instanceMethod yX1_writes ∈ lw_tbl := tbl_4 _ (List.mem_of_getElem? (i := 82) (by decide +kernel))
theorem tb982 : Cond.code yX1_writes cX1_writes 3 (some .int) ∈ lw_tbl := tbl_4 _ (List.mem_of_getElem? (i := 83) (by decide +kernel))
theorem tb983 : Cond.fieldLink RX1 21 "TwoPens$Copied" "number" "I" ∈ lw_tbl := tbl_2 _ (List.mem_of_getElem? (i := 144) (by decide +kernel))
theorem tb984 : Cond.sameField "TwoPens$Copied" "TwoPens$Line" "number" "I" ∈ lw_tbl := tbl_2 _ (List.mem_of_getElem? (i := 145) (by decide +kernel))
theorem tb985 : Cond.methodLink RX1 11 yX8_ran ∈ lw_tbl := tbl_4 _ (List.mem_of_getElem? (i := 84) (by decide +kernel))
theorem tb986 : Cond.selects RX3 ⟨"TwoPens$Line", "writes", "(ILTwoPens$Trace;)I"⟩ yX4_writes ∈ lw_tbl := tbl_4 _ (List.mem_of_getElem? (i := 91) (by decide +kernel))
theorem tb987 : Cond.methodLink RX11 229 yX4_writes ∈ lw_tbl := tbl_4 _ (List.mem_of_getElem? (i := 76) (by decide +kernel))
theorem tb988 : Cond.selects RX4 yX4_writes yX4_writes ∈ lw_tbl := tbl_4 _ (List.mem_of_getElem? (i := 78) (by decide +kernel))
theorem tb989 : Cond.selects RX7 ⟨"TwoPens$Line", "writes", "(ILTwoPens$Trace;)I"⟩ yX4_writes ∈ lw_tbl := tbl_4 _ (List.mem_of_getElem? (i := 92) (by decide +kernel))
theorem tb990 : Cond.selects RX9 ⟨"TwoPens$Line", "writes", "(ILTwoPens$Trace;)I"⟩ yX10_writes ∈ lw_tbl := tbl_4 _ (List.mem_of_getElem? (i := 93) (by decide +kernel))
theorem tb991 : Cond.instanceMethod yX10_writes ∈ lw_tbl := tbl_4 _ (List.mem_of_getElem? (i := 94) (by decide +kernel))
theorem tb992 : Cond.code yX10_writes cX10_writes 3 (some .int) ∈ lw_tbl := tbl_4 _ (List.mem_of_getElem? (i := 95) (by decide +kernel))
theorem tb993 : Cond.methodLink RX10 16 yX8_ran ∈ lw_tbl := tbl_4 _ (List.mem_of_getElem? (i := 96) (by decide +kernel))
theorem tb994 : Cond.methodLink RX10 22 yX4_writes ∈ lw_tbl := tbl_4 _ (List.mem_of_getElem? (i := 97) (by decide +kernel))
theorem tb995 : Cond.superclass RX10 RX4 ∈ lw_tbl := tbl_2 _ (List.mem_of_getElem? (i := 181) (by decide +kernel))
theorem tb996 : Cond.selects RX10 ⟨"TwoPens$Line", "writes", "(ILTwoPens$Trace;)I"⟩ yX10_writes ∈ lw_tbl := tbl_4 _ (List.mem_of_getElem? (i := 98) (by decide +kernel))
theorem tb997 : Cond.methodLink RX11 233 ⟨"TwoPens$Line", "shows", "(ILTwoPens$Trace;)I"⟩ ∈ lw_tbl := tbl_4 _ (List.mem_of_getElem? (i := 101) (by decide +kernel))
theorem tb998 : Cond.sameMethod "TwoPens$Line" "TwoPens$Line" "shows" "(ILTwoPens$Trace;)I" ∈ lw_tbl := tbl_4 _ (List.mem_of_getElem? (i := 104) (by decide +kernel))
theorem tb999 : Cond.instanceMethod ⟨"TwoPens$Line", "shows", "(ILTwoPens$Trace;)I"⟩ ∈ lw_tbl := tbl_4 _ (List.mem_of_getElem? (i := 102) (by decide +kernel))
theorem tb1000 : Cond.selects RX0 ⟨"TwoPens$Line", "shows", "(ILTwoPens$Trace;)I"⟩ yX0_shows ∈ lw_tbl := tbl_4 _ (List.mem_of_getElem? (i := 105) (by decide +kernel))
theorem tb1001 : Cond.instanceMethod yX0_shows ∈ lw_tbl := tbl_4 _ (List.mem_of_getElem? (i := 106) (by decide +kernel))
theorem tb1002 : Cond.code yX0_shows cX0_shows 3 (some .int) ∈ lw_tbl := tbl_4 _ (List.mem_of_getElem? (i := 107) (by decide +kernel))
theorem tb1003 : Cond.methodLink RX0 16 yX8_ran ∈ lw_tbl := tbl_4 _ (List.mem_of_getElem? (i := 108) (by decide +kernel))
theorem tb1004 : Cond.methodLink RX0 22 yX4_shows ∈ lw_tbl := tbl_4 _ (List.mem_of_getElem? (i := 109) (by decide +kernel))
theorem tb1005 : Cond.superclass RX0 RX4 ∈ lw_tbl := tbl_2 _ (List.mem_of_getElem? (i := 192) (by decide +kernel))
theorem tb1006 : Cond.instanceMethod yX4_shows ∈ lw_tbl := tbl_4 _ (List.mem_of_getElem? (i := 102) (by decide +kernel))
theorem tb1007 : Cond.code yX4_shows cX4_shows 3 (some .int) ∈ lw_tbl := tbl_4 _ (List.mem_of_getElem? (i := 121) (by decide +kernel))
theorem tb1008 : Cond.methodLink RX4 28 ⟨"TwoPens$Line", "writes", "(ILTwoPens$Trace;)I"⟩ ∈ lw_tbl := tbl_4 _ (List.mem_of_getElem? (i := 122) (by decide +kernel))
theorem tb1009 : Cond.methodLink RX4 28 yX4_writes ∈ lw_tbl := tbl_4 _ (List.mem_of_getElem? (i := 122) (by decide +kernel))
theorem tb1010 : Cond.selects RX1 ⟨"TwoPens$Line", "shows", "(ILTwoPens$Trace;)I"⟩ yX0_shows ∈ lw_tbl := tbl_4 _ (List.mem_of_getElem? (i := 110) (by decide +kernel))
theorem tb1011 : Cond.selects RX3 ⟨"TwoPens$Line", "shows", "(ILTwoPens$Trace;)I"⟩ yX4_shows ∈ lw_tbl := tbl_4 _ (List.mem_of_getElem? (i := 111) (by decide +kernel))
theorem tb1012 : Cond.methodLink RX11 233 yX4_shows ∈ lw_tbl := tbl_4 _ (List.mem_of_getElem? (i := 101) (by decide +kernel))
theorem tb1013 : Cond.selects RX4 yX4_shows yX4_shows ∈ lw_tbl := tbl_4 _ (List.mem_of_getElem? (i := 103) (by decide +kernel))
theorem tb1014 : Cond.selects RX7 ⟨"TwoPens$Line", "shows", "(ILTwoPens$Trace;)I"⟩ yX7_shows ∈ lw_tbl := tbl_4 _ (List.mem_of_getElem? (i := 112) (by decide +kernel))
theorem tb1015 : Cond.instanceMethod yX7_shows ∈ lw_tbl := tbl_4 _ (List.mem_of_getElem? (i := 113) (by decide +kernel))
theorem tb1016 : Cond.code yX7_shows cX7_shows 3 (some .int) ∈ lw_tbl := tbl_4 _ (List.mem_of_getElem? (i := 114) (by decide +kernel))
theorem tb1017 : Cond.methodLink RX7 35 yX8_ran ∈ lw_tbl := tbl_4 _ (List.mem_of_getElem? (i := 115) (by decide +kernel))
theorem tb1018 : Cond.selects RX9 ⟨"TwoPens$Line", "shows", "(ILTwoPens$Trace;)I"⟩ yX4_shows ∈ lw_tbl := tbl_4 _ (List.mem_of_getElem? (i := 119) (by decide +kernel))
theorem tb1019 : Cond.selects RX10 ⟨"TwoPens$Line", "shows", "(ILTwoPens$Trace;)I"⟩ yX4_shows ∈ lw_tbl := tbl_4 _ (List.mem_of_getElem? (i := 120) (by decide +kernel))
theorem tb1020 : Cond.methodLink RX11 236 ⟨"TwoPens$Line", "tells", "(ILTwoPens$Trace;)I"⟩ ∈ lw_tbl := tbl_4 _ (List.mem_of_getElem? (i := 123) (by decide +kernel))
theorem tb1021 : Cond.sameMethod "TwoPens$Line" "TwoPens$Line" "tells" "(ILTwoPens$Trace;)I" ∈ lw_tbl := tbl_4 _ (List.mem_of_getElem? (i := 126) (by decide +kernel))
theorem tb1022 : Cond.selects RX0 ⟨"TwoPens$Line", "tells", "(ILTwoPens$Trace;)I"⟩ yX4_tells ∈ lw_tbl := tbl_4 _ (List.mem_of_getElem? (i := 127) (by decide +kernel))
theorem tb1023 : Cond.instanceMethod yX4_tells ∈ lw_tbl := tbl_4 _ (List.mem_of_getElem? (i := 124) (by decide +kernel))
theorem tb1024 : Cond.code yX4_tells cX4_tells 3 (some .int) ∈ lw_tbl := tbl_4 _ (List.mem_of_getElem? (i := 147) (by decide +kernel))
theorem tb1025 : Cond.methodLink RX4 32 ⟨"TwoPens$Line", "shows", "(ILTwoPens$Trace;)I"⟩ ∈ lw_tbl := tbl_4 _ (List.mem_of_getElem? (i := 148) (by decide +kernel))
theorem tb1026 : Cond.methodLink RX4 32 yX4_shows ∈ lw_tbl := tbl_4 _ (List.mem_of_getElem? (i := 148) (by decide +kernel))
theorem tb1027 : Cond.selects RX1 ⟨"TwoPens$Line", "tells", "(ILTwoPens$Trace;)I"⟩ yX4_tells ∈ lw_tbl := tbl_4 _ (List.mem_of_getElem? (i := 128) (by decide +kernel))
theorem tb1028 : Cond.instanceMethod ⟨"TwoPens$Line", "tells", "(ILTwoPens$Trace;)I"⟩ ∈ lw_tbl := tbl_4 _ (List.mem_of_getElem? (i := 124) (by decide +kernel))
theorem tb1029 : Cond.selects RX3 ⟨"TwoPens$Line", "tells", "(ILTwoPens$Trace;)I"⟩ yX3_tells ∈ lw_tbl := tbl_4 _ (List.mem_of_getElem? (i := 129) (by decide +kernel))
theorem tb1030 : Cond.instanceMethod yX3_tells ∈ lw_tbl := tbl_4 _ (List.mem_of_getElem? (i := 130) (by decide +kernel))
theorem tb1031 : Cond.code yX3_tells cX3_tells 3 (some .int) ∈ lw_tbl := tbl_4 _ (List.mem_of_getElem? (i := 131) (by decide +kernel))
theorem tb1032 : Cond.methodLink RX3 13 yX8_ran ∈ lw_tbl := tbl_4 _ (List.mem_of_getElem? (i := 132) (by decide +kernel))
theorem tb1033 : Cond.methodLink RX3 19 yX4_tells ∈ lw_tbl := tbl_4 _ (List.mem_of_getElem? (i := 133) (by decide +kernel))
theorem tb1034 : Cond.superclass RX3 RX4 ∈ lw_tbl := tbl_2 _ (List.mem_of_getElem? (i := 203) (by decide +kernel))
theorem tb1035 : Cond.methodLink RX11 236 yX4_tells ∈ lw_tbl := tbl_4 _ (List.mem_of_getElem? (i := 123) (by decide +kernel))
theorem tb1036 : Cond.selects RX4 yX4_tells yX4_tells ∈ lw_tbl := tbl_4 _ (List.mem_of_getElem? (i := 125) (by decide +kernel))
theorem tb1037 : Cond.selects RX7 ⟨"TwoPens$Line", "tells", "(ILTwoPens$Trace;)I"⟩ yX3_tells ∈ lw_tbl := tbl_4 _ (List.mem_of_getElem? (i := 134) (by decide +kernel))
theorem tb1038 : Cond.selects RX9 ⟨"TwoPens$Line", "tells", "(ILTwoPens$Trace;)I"⟩ yX9_tells ∈ lw_tbl := tbl_4 _ (List.mem_of_getElem? (i := 135) (by decide +kernel))
theorem tb1039 : Cond.instanceMethod yX9_tells ∈ lw_tbl := tbl_4 _ (List.mem_of_getElem? (i := 136) (by decide +kernel))
theorem tb1040 : Cond.code yX9_tells cX9_tells 3 (some .int) ∈ lw_tbl := tbl_4 _ (List.mem_of_getElem? (i := 137) (by decide +kernel))
theorem tb1041 : Cond.methodLink RX9 20 yX8_ran ∈ lw_tbl := tbl_4 _ (List.mem_of_getElem? (i := 138) (by decide +kernel))
theorem tb1042 : Cond.methodLink RX9 30 ⟨"TwoPens$Triple", "writes", "(ILTwoPens$Trace;)I"⟩ ∈ lw_tbl := tbl_4 _ (List.mem_of_getElem? (i := 142) (by decide +kernel))
theorem tb1043 : Cond.sameMethod "TwoPens$Triple" "TwoPens$Twin" "writes" "(ILTwoPens$Trace;)I" ∈ lw_tbl := tbl_4 _ (List.mem_of_getElem? (i := 143) (by decide +kernel))
theorem tb1044 : Cond.selects RX9 ⟨"TwoPens$Triple", "writes", "(ILTwoPens$Trace;)I"⟩ yX10_writes ∈ lw_tbl := tbl_4 _ (List.mem_of_getElem? (i := 145) (by decide +kernel))
theorem tb1045 : Cond.selects RX10 ⟨"TwoPens$Line", "tells", "(ILTwoPens$Trace;)I"⟩ yX4_tells ∈ lw_tbl := tbl_4 _ (List.mem_of_getElem? (i := 146) (by decide +kernel))
theorem tb1046 : Cond.methodLink RL 141 yX12_act ∈ lw_tbl := tbl_6 _ (List.mem_of_getElem? (i := 53) (by decide +kernel))
theorem tb1047 : Cond.instanceMethod yX12_act ∈ lw_tbl := tbl_6 _ (List.mem_of_getElem? (i := 54) (by decide +kernel))
theorem tb1048 : Cond.selects RX12 yX12_act yX12_act ∈ lw_tbl := tbl_6 _ (List.mem_of_getElem? (i := 55) (by decide +kernel))
theorem tb1049 : Cond.code yX12_act cX12_act 4 (some .int) ∈ lw_tbl := tbl_6 _ (List.mem_of_getElem? (i := 56) (by decide +kernel))
theorem tb1050 : Cond.fieldLink RX12 223 "TwoPensModel" "ran" "I" ∈ lw_tbl := tbl_4 _ (List.mem_of_getElem? (i := 211) (by decide +kernel))
theorem tb1051 : Cond.fieldLink RX12 232 "TwoPensModel" "kind" "I" ∈ lw_tbl := tbl_4 _ (List.mem_of_getElem? (i := 212) (by decide +kernel))
theorem tb1052 : Cond.fieldLink RX12 229 "TwoPensModel" "number" "I" ∈ lw_tbl := tbl_4 _ (List.mem_of_getElem? (i := 213) (by decide +kernel))
theorem tb1053 : Cond.fieldLink RX12 244 "TwoPensModel" "tellsV" "I" ∈ lw_tbl := tbl_4 _ (List.mem_of_getElem? (i := 214) (by decide +kernel))
theorem tb1054 : Cond.methodLink RX12 241 yX12_writesActs ∈ lw_tbl := tbl_6 _ (List.mem_of_getElem? (i := 57) (by decide +kernel))
theorem tb1055 : Cond.instanceMethod yX12_writesActs ∈ lw_tbl := tbl_6 _ (List.mem_of_getElem? (i := 59) (by decide +kernel))
theorem tb1056 : Cond.selects RX12 yX12_writesActs yX12_writesActs ∈ lw_tbl := tbp_4 (yX12_writesActs, 24) (List.mem_of_getElem? (i := 0) (by decide +kernel))
theorem tb1057 : Cond.code yX12_writesActs cX12_writesActs 2 (some .int) ∈ lw_tbl := tbl_6 _ (List.mem_of_getElem? (i := 60) (by decide +kernel))
theorem tb1058 : Cond.methodLink RX12 235 yX12_isUnder ∈ lw_tbl := tbl_6 _ (List.mem_of_getElem? (i := 61) (by decide +kernel))
theorem tb1059 : Cond.static yX12_isUnder ∈ lw_tbl := tbl_6 _ (List.mem_of_getElem? (i := 62) (by decide +kernel))
theorem tb1060 : Cond.code yX12_isUnder cX12_isUnder 2 (some .boolean) ∈ lw_tbl := tbl_6 _ (List.mem_of_getElem? (i := 63) (by decide +kernel))
theorem tb1061 : Cond.methodLink RX12 226 yX12_ranBody ∈ lw_tbl := tbl_6 _ (List.mem_of_getElem? (i := 64) (by decide +kernel))
theorem tb1062 : Cond.instanceMethod yX12_ranBody ∈ lw_tbl := tbl_6 _ (List.mem_of_getElem? (i := 66) (by decide +kernel))
theorem tb1063 : Cond.selects RX12 yX12_ranBody yX12_ranBody ∈ lw_tbl := tbp_4 (yX12_ranBody, 24) (List.mem_of_getElem? (i := 1) (by decide +kernel))
theorem tb1064 : Cond.code yX12_ranBody cX12_ranBody 2 none ∈ lw_tbl := tbl_6 _ (List.mem_of_getElem? (i := 67) (by decide +kernel))
theorem tb1065 : Cond.methodLink RX12 238 yX12_plainWrites ∈ lw_tbl := tbl_6 _ (List.mem_of_getElem? (i := 68) (by decide +kernel))
theorem tb1066 : Cond.instanceMethod yX12_plainWrites ∈ lw_tbl := tbl_6 _ (List.mem_of_getElem? (i := 70) (by decide +kernel))
theorem tb1067 : Cond.selects RX12 yX12_plainWrites yX12_plainWrites ∈ lw_tbl := tbp_4 (yX12_plainWrites, 24) (List.mem_of_getElem? (i := 2) (by decide +kernel))
theorem tb1068 : Cond.code yX12_plainWrites cX12_plainWrites 2 (some .int) ∈ lw_tbl := tbl_6 _ (List.mem_of_getElem? (i := 71) (by decide +kernel))
theorem tb1069 : Cond.methodLink RX12 250 yX12_showsActs ∈ lw_tbl := tbl_6 _ (List.mem_of_getElem? (i := 72) (by decide +kernel))
theorem tb1070 : Cond.instanceMethod yX12_showsActs ∈ lw_tbl := tbl_6 _ (List.mem_of_getElem? (i := 74) (by decide +kernel))
theorem tb1071 : Cond.selects RX12 yX12_showsActs yX12_showsActs ∈ lw_tbl := tbp_4 (yX12_showsActs, 24) (List.mem_of_getElem? (i := 3) (by decide +kernel))
theorem tb1072 : Cond.code yX12_showsActs cX12_showsActs 2 (some .int) ∈ lw_tbl := tbl_6 _ (List.mem_of_getElem? (i := 75) (by decide +kernel))
theorem tb1073 : Cond.methodLink RX12 247 yX12_plainShows ∈ lw_tbl := tbl_6 _ (List.mem_of_getElem? (i := 76) (by decide +kernel))
theorem tb1074 : Cond.instanceMethod yX12_plainShows ∈ lw_tbl := tbl_6 _ (List.mem_of_getElem? (i := 78) (by decide +kernel))
theorem tb1075 : Cond.selects RX12 yX12_plainShows yX12_plainShows ∈ lw_tbl := tbp_4 (yX12_plainShows, 24) (List.mem_of_getElem? (i := 4) (by decide +kernel))
theorem tb1076 : Cond.code yX12_plainShows cX12_plainShows 2 (some .int) ∈ lw_tbl := tbl_6 _ (List.mem_of_getElem? (i := 79) (by decide +kernel))
theorem tb1077 : Cond.methodLink RX12 256 yX12_tellsActs ∈ lw_tbl := tbl_6 _ (List.mem_of_getElem? (i := 80) (by decide +kernel))
theorem tb1078 : Cond.instanceMethod yX12_tellsActs ∈ lw_tbl := tbl_6 _ (List.mem_of_getElem? (i := 82) (by decide +kernel))
theorem tb1079 : Cond.selects RX12 yX12_tellsActs yX12_tellsActs ∈ lw_tbl := tbp_4 (yX12_tellsActs, 24) (List.mem_of_getElem? (i := 5) (by decide +kernel))
theorem tb1080 : Cond.code yX12_tellsActs cX12_tellsActs 3 (some .int) ∈ lw_tbl := tbl_6 _ (List.mem_of_getElem? (i := 83) (by decide +kernel))
theorem tb1081 : Cond.methodLink RX12 253 yX12_plainTells ∈ lw_tbl := tbl_6 _ (List.mem_of_getElem? (i := 84) (by decide +kernel))
theorem tb1082 : Cond.instanceMethod yX12_plainTells ∈ lw_tbl := tbl_6 _ (List.mem_of_getElem? (i := 86) (by decide +kernel))
theorem tb1083 : Cond.selects RX12 yX12_plainTells yX12_plainTells ∈ lw_tbl := tbp_4 (yX12_plainTells, 24) (List.mem_of_getElem? (i := 6) (by decide +kernel))
theorem tb1084 : Cond.code yX12_plainTells cX12_plainTells 2 (some .int) ∈ lw_tbl := tbl_6 _ (List.mem_of_getElem? (i := 87) (by decide +kernel))
theorem tb1085 : Cond.methodLink RL 142 yX11_trace ∈ lw_tbl := tbl_4 _ (List.mem_of_getElem? (i := 149) (by decide +kernel))
theorem tb1086 : Cond.instanceMethod yX11_trace ∈ lw_tbl := tbl_4 _ (List.mem_of_getElem? (i := 150) (by decide +kernel))
theorem tb1087 : Cond.selects RX11 yX11_trace yX11_trace ∈ lw_tbl := tbl_4 _ (List.mem_of_getElem? (i := 151) (by decide +kernel))
theorem tb1088 : Cond.code yX11_trace cX11_trace 2 (some .int) ∈ lw_tbl := tbl_4 _ (List.mem_of_getElem? (i := 152) (by decide +kernel))
theorem tb1089 : Cond.methodLink RX11 239 yX8_bodyAt ∈ lw_tbl := tbl_4 _ (List.mem_of_getElem? (i := 153) (by decide +kernel))
theorem tb1090 : Cond.instanceMethod yX8_bodyAt ∈ lw_tbl := tbl_4 _ (List.mem_of_getElem? (i := 154) (by decide +kernel))
theorem tb1091 : Cond.selects RX8 yX8_bodyAt yX8_bodyAt ∈ lw_tbl := tbl_4 _ (List.mem_of_getElem? (i := 155) (by decide +kernel))
theorem tb1092 : Cond.code yX8_bodyAt cX8_bodyAt 2 (some .int) ∈ lw_tbl := tbl_4 _ (List.mem_of_getElem? (i := 156) (by decide +kernel))
theorem tb1093 : Cond.methodLink RL 145 yX12_trace ∈ lw_tbl := tbl_6 _ (List.mem_of_getElem? (i := 88) (by decide +kernel))
theorem tb1094 : Cond.instanceMethod yX12_trace ∈ lw_tbl := tbl_6 _ (List.mem_of_getElem? (i := 89) (by decide +kernel))
theorem tb1095 : Cond.selects RX12 yX12_trace yX12_trace ∈ lw_tbl := tbl_6 _ (List.mem_of_getElem? (i := 90) (by decide +kernel))
theorem tb1096 : Cond.code yX12_trace cX12_trace 2 (some .int) ∈ lw_tbl := tbl_6 _ (List.mem_of_getElem? (i := 91) (by decide +kernel))
theorem tb1097 : Cond.methodLink RL 146 yX11_as ∈ lw_tbl := tbl_4 _ (List.mem_of_getElem? (i := 157) (by decide +kernel))
theorem tb1098 : Cond.instanceMethod yX11_as ∈ lw_tbl := tbl_4 _ (List.mem_of_getElem? (i := 158) (by decide +kernel))
theorem tb1099 : Cond.selects RX11 yX11_as yX11_as ∈ lw_tbl := tbl_4 _ (List.mem_of_getElem? (i := 159) (by decide +kernel))
theorem tb1100 : Cond.code yX11_as cX11_as 4 (some .int) ∈ lw_tbl := tbl_4 _ (List.mem_of_getElem? (i := 160) (by decide +kernel))
theorem tb1101 : Cond.methodLink RX11 242 yX11_isUnder ∈ lw_tbl := tbl_4 _ (List.mem_of_getElem? (i := 161) (by decide +kernel))
theorem tb1102 : Cond.static yX11_isUnder ∈ lw_tbl := tbl_4 _ (List.mem_of_getElem? (i := 162) (by decide +kernel))
theorem tb1103 : Cond.code yX11_isUnder cX11_isUnder 2 (some .boolean) ∈ lw_tbl := tbl_4 _ (List.mem_of_getElem? (i := 163) (by decide +kernel))
theorem tb1104 : Cond.classLink RX11 270 "TwoPens$Twin" ∈ lw_tbl := tbl_2 _ (List.mem_of_getElem? (i := 131) (by decide +kernel))
theorem tb1105 : Cond.classLink RX11 275 "TwoPens$Column" ∈ lw_tbl := tbl_2 _ (List.mem_of_getElem? (i := 182) (by decide +kernel))
theorem tb1106 : Cond.classLink RX11 278 "TwoPens$Lent" ∈ lw_tbl := tbl_2 _ (List.mem_of_getElem? (i := 193) (by decide +kernel))
theorem tb1107 : Cond.classLink RX11 281 "TwoPens$Triple" ∈ lw_tbl := tbl_2 _ (List.mem_of_getElem? (i := 204) (by decide +kernel))
theorem tb1108 : Cond.classLink RX11 286 "TwoPens$Copied" ∈ lw_tbl := tbl_2 _ (List.mem_of_getElem? (i := 215) (by decide +kernel))
theorem tb1109 : Cond.methodLink RL 149 yX12_as ∈ lw_tbl := tbl_6 _ (List.mem_of_getElem? (i := 92) (by decide +kernel))
theorem tb1110 : Cond.instanceMethod yX12_as ∈ lw_tbl := tbl_6 _ (List.mem_of_getElem? (i := 93) (by decide +kernel))
theorem tb1111 : Cond.selects RX12 yX12_as yX12_as ∈ lw_tbl := tbl_6 _ (List.mem_of_getElem? (i := 94) (by decide +kernel))
theorem tb1112 : Cond.code yX12_as cX12_as 3 (some .int) ∈ lw_tbl := tbl_6 _ (List.mem_of_getElem? (i := 95) (by decide +kernel))
theorem tb1113 : Cond.methodLink RL 150 yX11_image ∈ lw_tbl := tbl_4 _ (List.mem_of_getElem? (i := 164) (by decide +kernel))
theorem tb1114 : Cond.instanceMethod yX11_image ∈ lw_tbl := tbl_4 _ (List.mem_of_getElem? (i := 165) (by decide +kernel))
theorem tb1115 : Cond.selects RX11 yX11_image yX11_image ∈ lw_tbl := tbl_4 _ (List.mem_of_getElem? (i := 166) (by decide +kernel))
theorem tb1116 : Cond.code yX11_image cX11_image 1 (some .int) ∈ lw_tbl := tbl_4 _ (List.mem_of_getElem? (i := 167) (by decide +kernel))
theorem tb1117 : Cond.fieldLink RX11 250 "TwoPens" "keptOne" "Z" ∈ lw_tbl := tbl_1 _ (List.mem_of_getElem? (i := 148) (by decide +kernel))
theorem tb1118 : Cond.methodLink RX11 246 yX2_copyAll ∈ lw_tbl := tbl_4 _ (List.mem_of_getElem? (i := 168) (by decide +kernel))
theorem tb1119 : Cond.instanceMethod yX2_copyAll ∈ lw_tbl := tbl_4 _ (List.mem_of_getElem? (i := 169) (by decide +kernel))
theorem tb1120 : Cond.selects RX2 yX2_copyAll yX2_copyAll ∈ lw_tbl := tbl_4 _ (List.mem_of_getElem? (i := 170) (by decide +kernel))
theorem tb1121 : Cond.code yX2_copyAll cX2_copyAll 3 none ∈ lw_tbl := tbl_4 _ (List.mem_of_getElem? (i := 171) (by decide +kernel))
theorem tb1122 : Cond.fieldLink RX2 55 "TwoPens$Desk" "schools" "I" ∈ lw_tbl := tbl_1 _ (List.mem_of_getElem? (i := 85) (by decide +kernel))
theorem tb1123 : Cond.fieldLink RX2 62 "TwoPens$Desk" "spent" "I" ∈ lw_tbl := tbl_1 _ (List.mem_of_getElem? (i := 91) (by decide +kernel))
theorem tb1124 : Cond.fieldLink RX2 65 "TwoPens$Desk" "paid" "I" ∈ lw_tbl := tbl_1 _ (List.mem_of_getElem? (i := 93) (by decide +kernel))
theorem tb1125 : Cond.methodLink RX2 58 yX5_copy ∈ lw_tbl := tbl_4 _ (List.mem_of_getElem? (i := 172) (by decide +kernel))
theorem tb1126 : Cond.instanceMethod yX5_copy ∈ lw_tbl := tbl_4 _ (List.mem_of_getElem? (i := 173) (by decide +kernel))
theorem tb1127 : Cond.selects RX5 yX5_copy yX5_copy ∈ lw_tbl := tbl_4 _ (List.mem_of_getElem? (i := 174) (by decide +kernel))
theorem tb1128 : Cond.code yX5_copy cX5_copy 3 none ∈ lw_tbl := tbl_4 _ (List.mem_of_getElem? (i := 175) (by decide +kernel))
theorem tb1129 : Cond.methodLink RX5 27 yX5_clear ∈ lw_tbl := tbl_4 _ (List.mem_of_getElem? (i := 176) (by decide +kernel))
theorem tb1130 : Cond.methodLink RX5 30 yX5_add ∈ lw_tbl := tbl_4 _ (List.mem_of_getElem? (i := 177) (by decide +kernel))
theorem tb1131 : Cond.methodLink RL 153 yX12_image ∈ lw_tbl := tbl_6 _ (List.mem_of_getElem? (i := 96) (by decide +kernel))
theorem tb1132 : Cond.instanceMethod yX12_image ∈ lw_tbl := tbl_6 _ (List.mem_of_getElem? (i := 97) (by decide +kernel))
theorem tb1133 : Cond.selects RX12 yX12_image yX12_image ∈ lw_tbl := tbl_6 _ (List.mem_of_getElem? (i := 98) (by decide +kernel))
theorem tb1134 : Cond.code yX12_image cX12_image 2 (some .int) ∈ lw_tbl := tbl_6 _ (List.mem_of_getElem? (i := 99) (by decide +kernel))
theorem tb1135 : Cond.fieldLink RX12 259 "TwoPensModel" "hasImage" "Z" ∈ lw_tbl := tbl_4 _ (List.mem_of_getElem? (i := 194) (by decide +kernel))
theorem tb1136 : Cond.methodLink RL 154 yX11_undo ∈ lw_tbl := tbl_4 _ (List.mem_of_getElem? (i := 178) (by decide +kernel))
theorem tb1137 : Cond.instanceMethod yX11_undo ∈ lw_tbl := tbl_4 _ (List.mem_of_getElem? (i := 179) (by decide +kernel))
theorem tb1138 : Cond.selects RX11 yX11_undo yX11_undo ∈ lw_tbl := tbl_4 _ (List.mem_of_getElem? (i := 180) (by decide +kernel))
theorem tb1139 : Cond.code yX11_undo cX11_undo 1 (some .int) ∈ lw_tbl := tbl_4 _ (List.mem_of_getElem? (i := 181) (by decide +kernel))
theorem tb1140 : Cond.methodLink RL 157 yX12_undo ∈ lw_tbl := tbl_6 _ (List.mem_of_getElem? (i := 100) (by decide +kernel))
theorem tb1141 : Cond.instanceMethod yX12_undo ∈ lw_tbl := tbl_6 _ (List.mem_of_getElem? (i := 101) (by decide +kernel))
theorem tb1142 : Cond.selects RX12 yX12_undo yX12_undo ∈ lw_tbl := tbl_6 _ (List.mem_of_getElem? (i := 102) (by decide +kernel))
theorem tb1143 : Cond.code yX12_undo cX12_undo 2 (some .int) ∈ lw_tbl := tbl_6 _ (List.mem_of_getElem? (i := 103) (by decide +kernel))
theorem tb1144 : Cond.methodLink RL 158 yX11_count ∈ lw_tbl := tbl_4 _ (List.mem_of_getElem? (i := 182) (by decide +kernel))
theorem tb1145 : Cond.instanceMethod yX11_count ∈ lw_tbl := tbl_4 _ (List.mem_of_getElem? (i := 183) (by decide +kernel))
theorem tb1146 : Cond.selects RX11 yX11_count yX11_count ∈ lw_tbl := tbl_4 _ (List.mem_of_getElem? (i := 184) (by decide +kernel))
theorem tb1147 : Cond.code yX11_count cX11_count 2 (some .int) ∈ lw_tbl := tbl_4 _ (List.mem_of_getElem? (i := 185) (by decide +kernel))
theorem tb1148 : Cond.fieldLink RX11 254 "TwoPens$Trace" "all" "I" ∈ lw_tbl := tbl_1 _ (List.mem_of_getElem? (i := 140) (by decide +kernel))
theorem tb1149 : Cond.methodLink RL 161 yX12_count ∈ lw_tbl := tbl_6 _ (List.mem_of_getElem? (i := 104) (by decide +kernel))
theorem tb1150 : Cond.instanceMethod yX12_count ∈ lw_tbl := tbl_6 _ (List.mem_of_getElem? (i := 105) (by decide +kernel))
theorem tb1151 : Cond.selects RX12 yX12_count yX12_count ∈ lw_tbl := tbl_6 _ (List.mem_of_getElem? (i := 106) (by decide +kernel))
theorem tb1152 : Cond.code yX12_count cX12_count 2 (some .int) ∈ lw_tbl := tbl_6 _ (List.mem_of_getElem? (i := 107) (by decide +kernel))
theorem wg_wsL_law_r1 : ∀ w ∈ wsL_law_r1, w ∈ lw_tbl := List.forall_mem_cons.mpr ⟨tb0, List.forall_mem_cons.mpr ⟨tb1, List.forall_mem_cons.mpr ⟨tb2, List.forall_mem_cons.mpr ⟨tb3, List.forall_mem_cons.mpr ⟨tb4, List.forall_mem_cons.mpr ⟨tb5, List.forall_mem_cons.mpr ⟨tb6, List.forall_mem_cons.mpr ⟨tb7, List.forall_mem_cons.mpr ⟨tb8, List.forall_mem_cons.mpr ⟨tb9, List.forall_mem_cons.mpr ⟨tb10, List.forall_mem_cons.mpr ⟨tb11, List.forall_mem_cons.mpr ⟨tb12, List.forall_mem_cons.mpr ⟨tb13, List.forall_mem_cons.mpr ⟨tb14, List.forall_mem_cons.mpr ⟨tb15, List.forall_mem_cons.mpr ⟨tb16, List.forall_mem_cons.mpr ⟨tb17, List.forall_mem_cons.mpr ⟨tb18, List.forall_mem_cons.mpr ⟨tb19, List.forall_mem_cons.mpr ⟨tb20, List.forall_mem_cons.mpr ⟨tb21, List.forall_mem_cons.mpr ⟨tb22, List.forall_mem_cons.mpr ⟨tb23, fun _ h => absurd h List.not_mem_nil⟩⟩⟩⟩⟩⟩⟩⟩⟩⟩⟩⟩⟩⟩⟩⟩⟩⟩⟩⟩⟩⟩⟩⟩
theorem wh_wsL_law_r1 : wsL_law_r1.all goodWord = true := by decide +kernel
theorem wg_wsL_law_r2 : ∀ w ∈ wsL_law_r2, w ∈ lw_tbl := List.forall_mem_cons.mpr ⟨tb24, List.forall_mem_cons.mpr ⟨tb25, List.forall_mem_cons.mpr ⟨tb26, List.forall_mem_cons.mpr ⟨tb27, List.forall_mem_cons.mpr ⟨tb28, List.forall_mem_cons.mpr ⟨tb29, List.forall_mem_cons.mpr ⟨tb30, List.forall_mem_cons.mpr ⟨tb31, List.forall_mem_cons.mpr ⟨tb32, List.forall_mem_cons.mpr ⟨tb33, List.forall_mem_cons.mpr ⟨tb34, List.forall_mem_cons.mpr ⟨tb35, List.forall_mem_cons.mpr ⟨tb36, List.forall_mem_cons.mpr ⟨tb37, List.forall_mem_cons.mpr ⟨tb38, List.forall_mem_cons.mpr ⟨tb39, List.forall_mem_cons.mpr ⟨tb40, List.forall_mem_cons.mpr ⟨tb41, List.forall_mem_cons.mpr ⟨tb42, List.forall_mem_cons.mpr ⟨tb43, List.forall_mem_cons.mpr ⟨tb44, List.forall_mem_cons.mpr ⟨tb45, List.forall_mem_cons.mpr ⟨tb46, List.forall_mem_cons.mpr ⟨tb47, fun _ h => absurd h List.not_mem_nil⟩⟩⟩⟩⟩⟩⟩⟩⟩⟩⟩⟩⟩⟩⟩⟩⟩⟩⟩⟩⟩⟩⟩⟩
theorem wh_wsL_law_r2 : wsL_law_r2.all goodWord = true := by decide +kernel
theorem wg_wsL_law_r3 : ∀ w ∈ wsL_law_r3, w ∈ lw_tbl := List.forall_mem_cons.mpr ⟨tb48, List.forall_mem_cons.mpr ⟨tb49, List.forall_mem_cons.mpr ⟨tb50, List.forall_mem_cons.mpr ⟨tb51, List.forall_mem_cons.mpr ⟨tb52, List.forall_mem_cons.mpr ⟨tb53, List.forall_mem_cons.mpr ⟨tb54, List.forall_mem_cons.mpr ⟨tb55, List.forall_mem_cons.mpr ⟨tb56, List.forall_mem_cons.mpr ⟨tb57, List.forall_mem_cons.mpr ⟨tb58, List.forall_mem_cons.mpr ⟨tb59, List.forall_mem_cons.mpr ⟨tb60, List.forall_mem_cons.mpr ⟨tb61, List.forall_mem_cons.mpr ⟨tb62, List.forall_mem_cons.mpr ⟨tb63, List.forall_mem_cons.mpr ⟨tb64, List.forall_mem_cons.mpr ⟨tb65, List.forall_mem_cons.mpr ⟨tb66, List.forall_mem_cons.mpr ⟨tb67, List.forall_mem_cons.mpr ⟨tb68, List.forall_mem_cons.mpr ⟨tb69, List.forall_mem_cons.mpr ⟨tb70, List.forall_mem_cons.mpr ⟨tb71, fun _ h => absurd h List.not_mem_nil⟩⟩⟩⟩⟩⟩⟩⟩⟩⟩⟩⟩⟩⟩⟩⟩⟩⟩⟩⟩⟩⟩⟩⟩
theorem wh_wsL_law_r3 : wsL_law_r3.all goodWord = true := by decide +kernel
theorem wg_wsL_law_r4 : ∀ w ∈ wsL_law_r4, w ∈ lw_tbl := List.forall_mem_cons.mpr ⟨tb72, List.forall_mem_cons.mpr ⟨tb73, List.forall_mem_cons.mpr ⟨tb74, List.forall_mem_cons.mpr ⟨tb75, List.forall_mem_cons.mpr ⟨tb76, List.forall_mem_cons.mpr ⟨tb77, List.forall_mem_cons.mpr ⟨tb78, List.forall_mem_cons.mpr ⟨tb79, List.forall_mem_cons.mpr ⟨tb80, List.forall_mem_cons.mpr ⟨tb81, List.forall_mem_cons.mpr ⟨tb82, List.forall_mem_cons.mpr ⟨tb83, List.forall_mem_cons.mpr ⟨tb84, List.forall_mem_cons.mpr ⟨tb85, List.forall_mem_cons.mpr ⟨tb86, List.forall_mem_cons.mpr ⟨tb87, List.forall_mem_cons.mpr ⟨tb88, List.forall_mem_cons.mpr ⟨tb89, List.forall_mem_cons.mpr ⟨tb90, List.forall_mem_cons.mpr ⟨tb91, List.forall_mem_cons.mpr ⟨tb92, List.forall_mem_cons.mpr ⟨tb93, List.forall_mem_cons.mpr ⟨tb94, List.forall_mem_cons.mpr ⟨tb95, fun _ h => absurd h List.not_mem_nil⟩⟩⟩⟩⟩⟩⟩⟩⟩⟩⟩⟩⟩⟩⟩⟩⟩⟩⟩⟩⟩⟩⟩⟩
theorem wh_wsL_law_r4 : wsL_law_r4.all goodWord = true := by decide +kernel
theorem wg_wsL_law_r5 : ∀ w ∈ wsL_law_r5, w ∈ lw_tbl := List.forall_mem_cons.mpr ⟨tb96, List.forall_mem_cons.mpr ⟨tb97, List.forall_mem_cons.mpr ⟨tb98, List.forall_mem_cons.mpr ⟨tb99, List.forall_mem_cons.mpr ⟨tb100, List.forall_mem_cons.mpr ⟨tb101, List.forall_mem_cons.mpr ⟨tb102, List.forall_mem_cons.mpr ⟨tb103, List.forall_mem_cons.mpr ⟨tb104, List.forall_mem_cons.mpr ⟨tb105, List.forall_mem_cons.mpr ⟨tb106, List.forall_mem_cons.mpr ⟨tb107, List.forall_mem_cons.mpr ⟨tb108, List.forall_mem_cons.mpr ⟨tb109, List.forall_mem_cons.mpr ⟨tb110, List.forall_mem_cons.mpr ⟨tb111, List.forall_mem_cons.mpr ⟨tb112, List.forall_mem_cons.mpr ⟨tb113, List.forall_mem_cons.mpr ⟨tb114, List.forall_mem_cons.mpr ⟨tb115, List.forall_mem_cons.mpr ⟨tb116, List.forall_mem_cons.mpr ⟨tb117, List.forall_mem_cons.mpr ⟨tb118, List.forall_mem_cons.mpr ⟨tb119, fun _ h => absurd h List.not_mem_nil⟩⟩⟩⟩⟩⟩⟩⟩⟩⟩⟩⟩⟩⟩⟩⟩⟩⟩⟩⟩⟩⟩⟩⟩
theorem wh_wsL_law_r5 : wsL_law_r5.all goodWord = true := by decide +kernel
theorem wg_wsL_law_r6 : ∀ w ∈ wsL_law_r6, w ∈ lw_tbl := List.forall_mem_cons.mpr ⟨tb120, List.forall_mem_cons.mpr ⟨tb121, List.forall_mem_cons.mpr ⟨tb122, List.forall_mem_cons.mpr ⟨tb123, List.forall_mem_cons.mpr ⟨tb124, List.forall_mem_cons.mpr ⟨tb125, List.forall_mem_cons.mpr ⟨tb126, List.forall_mem_cons.mpr ⟨tb127, List.forall_mem_cons.mpr ⟨tb128, List.forall_mem_cons.mpr ⟨tb129, List.forall_mem_cons.mpr ⟨tb130, List.forall_mem_cons.mpr ⟨tb131, List.forall_mem_cons.mpr ⟨tb132, List.forall_mem_cons.mpr ⟨tb133, List.forall_mem_cons.mpr ⟨tb134, List.forall_mem_cons.mpr ⟨tb135, List.forall_mem_cons.mpr ⟨tb136, List.forall_mem_cons.mpr ⟨tb137, List.forall_mem_cons.mpr ⟨tb138, List.forall_mem_cons.mpr ⟨tb139, List.forall_mem_cons.mpr ⟨tb140, List.forall_mem_cons.mpr ⟨tb141, List.forall_mem_cons.mpr ⟨tb142, List.forall_mem_cons.mpr ⟨tb143, fun _ h => absurd h List.not_mem_nil⟩⟩⟩⟩⟩⟩⟩⟩⟩⟩⟩⟩⟩⟩⟩⟩⟩⟩⟩⟩⟩⟩⟩⟩
theorem wh_wsL_law_r6 : wsL_law_r6.all goodWord = true := by decide +kernel
theorem wg_wsL_law_r7 : ∀ w ∈ wsL_law_r7, w ∈ lw_tbl := List.forall_mem_cons.mpr ⟨tb144, List.forall_mem_cons.mpr ⟨tb145, List.forall_mem_cons.mpr ⟨tb146, List.forall_mem_cons.mpr ⟨tb147, List.forall_mem_cons.mpr ⟨tb148, List.forall_mem_cons.mpr ⟨tb149, List.forall_mem_cons.mpr ⟨tb150, List.forall_mem_cons.mpr ⟨tb151, List.forall_mem_cons.mpr ⟨tb152, List.forall_mem_cons.mpr ⟨tb153, List.forall_mem_cons.mpr ⟨tb154, List.forall_mem_cons.mpr ⟨tb155, List.forall_mem_cons.mpr ⟨tb156, List.forall_mem_cons.mpr ⟨tb157, List.forall_mem_cons.mpr ⟨tb158, List.forall_mem_cons.mpr ⟨tb159, List.forall_mem_cons.mpr ⟨tb160, List.forall_mem_cons.mpr ⟨tb161, List.forall_mem_cons.mpr ⟨tb162, List.forall_mem_cons.mpr ⟨tb163, List.forall_mem_cons.mpr ⟨tb164, List.forall_mem_cons.mpr ⟨tb165, List.forall_mem_cons.mpr ⟨tb166, List.forall_mem_cons.mpr ⟨tb167, fun _ h => absurd h List.not_mem_nil⟩⟩⟩⟩⟩⟩⟩⟩⟩⟩⟩⟩⟩⟩⟩⟩⟩⟩⟩⟩⟩⟩⟩⟩
theorem wh_wsL_law_r7 : wsL_law_r7.all goodWord = true := by decide +kernel
theorem wg_wsL_law_r8 : ∀ w ∈ wsL_law_r8, w ∈ lw_tbl := List.forall_mem_cons.mpr ⟨tb168, List.forall_mem_cons.mpr ⟨tb169, List.forall_mem_cons.mpr ⟨tb170, List.forall_mem_cons.mpr ⟨tb171, List.forall_mem_cons.mpr ⟨tb172, List.forall_mem_cons.mpr ⟨tb173, List.forall_mem_cons.mpr ⟨tb174, List.forall_mem_cons.mpr ⟨tb175, List.forall_mem_cons.mpr ⟨tb176, List.forall_mem_cons.mpr ⟨tb177, List.forall_mem_cons.mpr ⟨tb178, List.forall_mem_cons.mpr ⟨tb179, List.forall_mem_cons.mpr ⟨tb180, List.forall_mem_cons.mpr ⟨tb181, List.forall_mem_cons.mpr ⟨tb182, List.forall_mem_cons.mpr ⟨tb183, List.forall_mem_cons.mpr ⟨tb184, List.forall_mem_cons.mpr ⟨tb185, List.forall_mem_cons.mpr ⟨tb186, List.forall_mem_cons.mpr ⟨tb187, List.forall_mem_cons.mpr ⟨tb188, List.forall_mem_cons.mpr ⟨tb189, List.forall_mem_cons.mpr ⟨tb190, List.forall_mem_cons.mpr ⟨tb191, fun _ h => absurd h List.not_mem_nil⟩⟩⟩⟩⟩⟩⟩⟩⟩⟩⟩⟩⟩⟩⟩⟩⟩⟩⟩⟩⟩⟩⟩⟩
theorem wh_wsL_law_r8 : wsL_law_r8.all goodWord = true := by decide +kernel
theorem wg_wsL_law_r9 : ∀ w ∈ wsL_law_r9, w ∈ lw_tbl := List.forall_mem_cons.mpr ⟨tb192, List.forall_mem_cons.mpr ⟨tb193, List.forall_mem_cons.mpr ⟨tb194, List.forall_mem_cons.mpr ⟨tb195, List.forall_mem_cons.mpr ⟨tb196, List.forall_mem_cons.mpr ⟨tb197, List.forall_mem_cons.mpr ⟨tb198, List.forall_mem_cons.mpr ⟨tb199, List.forall_mem_cons.mpr ⟨tb200, List.forall_mem_cons.mpr ⟨tb201, List.forall_mem_cons.mpr ⟨tb202, List.forall_mem_cons.mpr ⟨tb203, List.forall_mem_cons.mpr ⟨tb204, List.forall_mem_cons.mpr ⟨tb205, List.forall_mem_cons.mpr ⟨tb206, List.forall_mem_cons.mpr ⟨tb207, List.forall_mem_cons.mpr ⟨tb208, List.forall_mem_cons.mpr ⟨tb209, List.forall_mem_cons.mpr ⟨tb210, List.forall_mem_cons.mpr ⟨tb211, List.forall_mem_cons.mpr ⟨tb212, List.forall_mem_cons.mpr ⟨tb213, List.forall_mem_cons.mpr ⟨tb214, List.forall_mem_cons.mpr ⟨tb215, fun _ h => absurd h List.not_mem_nil⟩⟩⟩⟩⟩⟩⟩⟩⟩⟩⟩⟩⟩⟩⟩⟩⟩⟩⟩⟩⟩⟩⟩⟩
theorem wh_wsL_law_r9 : wsL_law_r9.all goodWord = true := by decide +kernel
theorem wg_wsL_law_r10 : ∀ w ∈ wsL_law_r10, w ∈ lw_tbl := List.forall_mem_cons.mpr ⟨tb216, List.forall_mem_cons.mpr ⟨tb217, List.forall_mem_cons.mpr ⟨tb218, List.forall_mem_cons.mpr ⟨tb219, List.forall_mem_cons.mpr ⟨tb220, List.forall_mem_cons.mpr ⟨tb221, List.forall_mem_cons.mpr ⟨tb222, List.forall_mem_cons.mpr ⟨tb223, List.forall_mem_cons.mpr ⟨tb224, List.forall_mem_cons.mpr ⟨tb225, List.forall_mem_cons.mpr ⟨tb226, List.forall_mem_cons.mpr ⟨tb227, List.forall_mem_cons.mpr ⟨tb228, List.forall_mem_cons.mpr ⟨tb229, List.forall_mem_cons.mpr ⟨tb230, List.forall_mem_cons.mpr ⟨tb231, List.forall_mem_cons.mpr ⟨tb232, List.forall_mem_cons.mpr ⟨tb233, List.forall_mem_cons.mpr ⟨tb234, List.forall_mem_cons.mpr ⟨tb235, List.forall_mem_cons.mpr ⟨tb236, List.forall_mem_cons.mpr ⟨tb237, List.forall_mem_cons.mpr ⟨tb238, List.forall_mem_cons.mpr ⟨tb239, fun _ h => absurd h List.not_mem_nil⟩⟩⟩⟩⟩⟩⟩⟩⟩⟩⟩⟩⟩⟩⟩⟩⟩⟩⟩⟩⟩⟩⟩⟩
theorem wh_wsL_law_r10 : wsL_law_r10.all goodWord = true := by decide +kernel
theorem wg_wsL_law_r11 : ∀ w ∈ wsL_law_r11, w ∈ lw_tbl := List.forall_mem_cons.mpr ⟨tb240, List.forall_mem_cons.mpr ⟨tb241, List.forall_mem_cons.mpr ⟨tb242, List.forall_mem_cons.mpr ⟨tb243, List.forall_mem_cons.mpr ⟨tb244, List.forall_mem_cons.mpr ⟨tb245, List.forall_mem_cons.mpr ⟨tb246, List.forall_mem_cons.mpr ⟨tb247, List.forall_mem_cons.mpr ⟨tb248, List.forall_mem_cons.mpr ⟨tb249, List.forall_mem_cons.mpr ⟨tb250, List.forall_mem_cons.mpr ⟨tb251, List.forall_mem_cons.mpr ⟨tb252, List.forall_mem_cons.mpr ⟨tb253, List.forall_mem_cons.mpr ⟨tb254, List.forall_mem_cons.mpr ⟨tb255, List.forall_mem_cons.mpr ⟨tb256, List.forall_mem_cons.mpr ⟨tb257, List.forall_mem_cons.mpr ⟨tb258, List.forall_mem_cons.mpr ⟨tb259, List.forall_mem_cons.mpr ⟨tb260, List.forall_mem_cons.mpr ⟨tb261, List.forall_mem_cons.mpr ⟨tb262, List.forall_mem_cons.mpr ⟨tb263, fun _ h => absurd h List.not_mem_nil⟩⟩⟩⟩⟩⟩⟩⟩⟩⟩⟩⟩⟩⟩⟩⟩⟩⟩⟩⟩⟩⟩⟩⟩
theorem wh_wsL_law_r11 : wsL_law_r11.all goodWord = true := by decide +kernel
theorem wg_wsL_law_r12 : ∀ w ∈ wsL_law_r12, w ∈ lw_tbl := List.forall_mem_cons.mpr ⟨tb264, List.forall_mem_cons.mpr ⟨tb265, List.forall_mem_cons.mpr ⟨tb266, List.forall_mem_cons.mpr ⟨tb267, List.forall_mem_cons.mpr ⟨tb268, List.forall_mem_cons.mpr ⟨tb269, List.forall_mem_cons.mpr ⟨tb270, List.forall_mem_cons.mpr ⟨tb271, List.forall_mem_cons.mpr ⟨tb272, List.forall_mem_cons.mpr ⟨tb273, List.forall_mem_cons.mpr ⟨tb274, List.forall_mem_cons.mpr ⟨tb275, List.forall_mem_cons.mpr ⟨tb276, List.forall_mem_cons.mpr ⟨tb277, List.forall_mem_cons.mpr ⟨tb278, List.forall_mem_cons.mpr ⟨tb279, List.forall_mem_cons.mpr ⟨tb280, List.forall_mem_cons.mpr ⟨tb281, List.forall_mem_cons.mpr ⟨tb282, List.forall_mem_cons.mpr ⟨tb283, List.forall_mem_cons.mpr ⟨tb284, List.forall_mem_cons.mpr ⟨tb285, List.forall_mem_cons.mpr ⟨tb286, List.forall_mem_cons.mpr ⟨tb287, fun _ h => absurd h List.not_mem_nil⟩⟩⟩⟩⟩⟩⟩⟩⟩⟩⟩⟩⟩⟩⟩⟩⟩⟩⟩⟩⟩⟩⟩⟩
theorem wh_wsL_law_r12 : wsL_law_r12.all goodWord = true := by decide +kernel
theorem wg_wsL_law_r13 : ∀ w ∈ wsL_law_r13, w ∈ lw_tbl := List.forall_mem_cons.mpr ⟨tb288, List.forall_mem_cons.mpr ⟨tb289, List.forall_mem_cons.mpr ⟨tb290, List.forall_mem_cons.mpr ⟨tb291, List.forall_mem_cons.mpr ⟨tb292, List.forall_mem_cons.mpr ⟨tb293, List.forall_mem_cons.mpr ⟨tb294, List.forall_mem_cons.mpr ⟨tb295, List.forall_mem_cons.mpr ⟨tb296, List.forall_mem_cons.mpr ⟨tb297, List.forall_mem_cons.mpr ⟨tb298, List.forall_mem_cons.mpr ⟨tb299, List.forall_mem_cons.mpr ⟨tb300, List.forall_mem_cons.mpr ⟨tb301, List.forall_mem_cons.mpr ⟨tb302, List.forall_mem_cons.mpr ⟨tb303, List.forall_mem_cons.mpr ⟨tb304, List.forall_mem_cons.mpr ⟨tb305, List.forall_mem_cons.mpr ⟨tb306, List.forall_mem_cons.mpr ⟨tb307, List.forall_mem_cons.mpr ⟨tb308, List.forall_mem_cons.mpr ⟨tb309, List.forall_mem_cons.mpr ⟨tb310, List.forall_mem_cons.mpr ⟨tb311, fun _ h => absurd h List.not_mem_nil⟩⟩⟩⟩⟩⟩⟩⟩⟩⟩⟩⟩⟩⟩⟩⟩⟩⟩⟩⟩⟩⟩⟩⟩
theorem wh_wsL_law_r13 : wsL_law_r13.all goodWord = true := by decide +kernel
theorem wg_wsL_law_r14 : ∀ w ∈ wsL_law_r14, w ∈ lw_tbl := List.forall_mem_cons.mpr ⟨tb312, List.forall_mem_cons.mpr ⟨tb313, List.forall_mem_cons.mpr ⟨tb314, List.forall_mem_cons.mpr ⟨tb315, List.forall_mem_cons.mpr ⟨tb316, List.forall_mem_cons.mpr ⟨tb317, List.forall_mem_cons.mpr ⟨tb318, List.forall_mem_cons.mpr ⟨tb319, List.forall_mem_cons.mpr ⟨tb320, List.forall_mem_cons.mpr ⟨tb321, List.forall_mem_cons.mpr ⟨tb322, List.forall_mem_cons.mpr ⟨tb323, List.forall_mem_cons.mpr ⟨tb324, List.forall_mem_cons.mpr ⟨tb325, List.forall_mem_cons.mpr ⟨tb326, List.forall_mem_cons.mpr ⟨tb327, List.forall_mem_cons.mpr ⟨tb328, List.forall_mem_cons.mpr ⟨tb329, List.forall_mem_cons.mpr ⟨tb330, List.forall_mem_cons.mpr ⟨tb331, List.forall_mem_cons.mpr ⟨tb332, List.forall_mem_cons.mpr ⟨tb333, List.forall_mem_cons.mpr ⟨tb334, List.forall_mem_cons.mpr ⟨tb335, fun _ h => absurd h List.not_mem_nil⟩⟩⟩⟩⟩⟩⟩⟩⟩⟩⟩⟩⟩⟩⟩⟩⟩⟩⟩⟩⟩⟩⟩⟩
theorem wh_wsL_law_r14 : wsL_law_r14.all goodWord = true := by decide +kernel
theorem wg_wsL_law_r15 : ∀ w ∈ wsL_law_r15, w ∈ lw_tbl := List.forall_mem_cons.mpr ⟨tb336, List.forall_mem_cons.mpr ⟨tb337, List.forall_mem_cons.mpr ⟨tb338, List.forall_mem_cons.mpr ⟨tb339, List.forall_mem_cons.mpr ⟨tb340, List.forall_mem_cons.mpr ⟨tb341, List.forall_mem_cons.mpr ⟨tb342, List.forall_mem_cons.mpr ⟨tb343, List.forall_mem_cons.mpr ⟨tb344, List.forall_mem_cons.mpr ⟨tb345, List.forall_mem_cons.mpr ⟨tb346, List.forall_mem_cons.mpr ⟨tb347, List.forall_mem_cons.mpr ⟨tb348, List.forall_mem_cons.mpr ⟨tb349, List.forall_mem_cons.mpr ⟨tb350, List.forall_mem_cons.mpr ⟨tb351, List.forall_mem_cons.mpr ⟨tb352, List.forall_mem_cons.mpr ⟨tb353, List.forall_mem_cons.mpr ⟨tb354, List.forall_mem_cons.mpr ⟨tb355, List.forall_mem_cons.mpr ⟨tb356, List.forall_mem_cons.mpr ⟨tb357, List.forall_mem_cons.mpr ⟨tb358, List.forall_mem_cons.mpr ⟨tb359, fun _ h => absurd h List.not_mem_nil⟩⟩⟩⟩⟩⟩⟩⟩⟩⟩⟩⟩⟩⟩⟩⟩⟩⟩⟩⟩⟩⟩⟩⟩
theorem wh_wsL_law_r15 : wsL_law_r15.all goodWord = true := by decide +kernel
theorem wg_wsL_law_r16 : ∀ w ∈ wsL_law_r16, w ∈ lw_tbl := List.forall_mem_cons.mpr ⟨tb360, List.forall_mem_cons.mpr ⟨tb361, List.forall_mem_cons.mpr ⟨tb362, List.forall_mem_cons.mpr ⟨tb363, List.forall_mem_cons.mpr ⟨tb364, List.forall_mem_cons.mpr ⟨tb365, List.forall_mem_cons.mpr ⟨tb366, List.forall_mem_cons.mpr ⟨tb367, List.forall_mem_cons.mpr ⟨tb368, List.forall_mem_cons.mpr ⟨tb369, List.forall_mem_cons.mpr ⟨tb370, List.forall_mem_cons.mpr ⟨tb371, List.forall_mem_cons.mpr ⟨tb372, List.forall_mem_cons.mpr ⟨tb373, List.forall_mem_cons.mpr ⟨tb374, List.forall_mem_cons.mpr ⟨tb375, List.forall_mem_cons.mpr ⟨tb376, List.forall_mem_cons.mpr ⟨tb377, List.forall_mem_cons.mpr ⟨tb378, List.forall_mem_cons.mpr ⟨tb379, List.forall_mem_cons.mpr ⟨tb380, List.forall_mem_cons.mpr ⟨tb381, List.forall_mem_cons.mpr ⟨tb382, List.forall_mem_cons.mpr ⟨tb383, fun _ h => absurd h List.not_mem_nil⟩⟩⟩⟩⟩⟩⟩⟩⟩⟩⟩⟩⟩⟩⟩⟩⟩⟩⟩⟩⟩⟩⟩⟩
theorem wh_wsL_law_r16 : wsL_law_r16.all goodWord = true := by decide +kernel
theorem wg_wsL_law_r17 : ∀ w ∈ wsL_law_r17, w ∈ lw_tbl := List.forall_mem_cons.mpr ⟨tb384, List.forall_mem_cons.mpr ⟨tb385, List.forall_mem_cons.mpr ⟨tb386, List.forall_mem_cons.mpr ⟨tb387, List.forall_mem_cons.mpr ⟨tb388, List.forall_mem_cons.mpr ⟨tb389, List.forall_mem_cons.mpr ⟨tb390, List.forall_mem_cons.mpr ⟨tb391, List.forall_mem_cons.mpr ⟨tb392, List.forall_mem_cons.mpr ⟨tb393, List.forall_mem_cons.mpr ⟨tb394, List.forall_mem_cons.mpr ⟨tb395, List.forall_mem_cons.mpr ⟨tb396, List.forall_mem_cons.mpr ⟨tb397, List.forall_mem_cons.mpr ⟨tb398, List.forall_mem_cons.mpr ⟨tb399, List.forall_mem_cons.mpr ⟨tb400, List.forall_mem_cons.mpr ⟨tb401, List.forall_mem_cons.mpr ⟨tb402, List.forall_mem_cons.mpr ⟨tb403, List.forall_mem_cons.mpr ⟨tb404, List.forall_mem_cons.mpr ⟨tb405, List.forall_mem_cons.mpr ⟨tb406, List.forall_mem_cons.mpr ⟨tb407, fun _ h => absurd h List.not_mem_nil⟩⟩⟩⟩⟩⟩⟩⟩⟩⟩⟩⟩⟩⟩⟩⟩⟩⟩⟩⟩⟩⟩⟩⟩
theorem wh_wsL_law_r17 : wsL_law_r17.all goodWord = true := by decide +kernel
theorem wg_wsL_law_r18 : ∀ w ∈ wsL_law_r18, w ∈ lw_tbl := List.forall_mem_cons.mpr ⟨tb408, List.forall_mem_cons.mpr ⟨tb409, List.forall_mem_cons.mpr ⟨tb410, List.forall_mem_cons.mpr ⟨tb411, List.forall_mem_cons.mpr ⟨tb412, List.forall_mem_cons.mpr ⟨tb413, List.forall_mem_cons.mpr ⟨tb414, List.forall_mem_cons.mpr ⟨tb415, List.forall_mem_cons.mpr ⟨tb416, List.forall_mem_cons.mpr ⟨tb417, List.forall_mem_cons.mpr ⟨tb418, List.forall_mem_cons.mpr ⟨tb419, List.forall_mem_cons.mpr ⟨tb420, List.forall_mem_cons.mpr ⟨tb421, List.forall_mem_cons.mpr ⟨tb422, List.forall_mem_cons.mpr ⟨tb423, List.forall_mem_cons.mpr ⟨tb424, List.forall_mem_cons.mpr ⟨tb425, List.forall_mem_cons.mpr ⟨tb426, List.forall_mem_cons.mpr ⟨tb427, List.forall_mem_cons.mpr ⟨tb428, List.forall_mem_cons.mpr ⟨tb429, List.forall_mem_cons.mpr ⟨tb430, List.forall_mem_cons.mpr ⟨tb431, fun _ h => absurd h List.not_mem_nil⟩⟩⟩⟩⟩⟩⟩⟩⟩⟩⟩⟩⟩⟩⟩⟩⟩⟩⟩⟩⟩⟩⟩⟩
theorem wh_wsL_law_r18 : wsL_law_r18.all goodWord = true := by decide +kernel
theorem wg_wsL_law_r19 : ∀ w ∈ wsL_law_r19, w ∈ lw_tbl := List.forall_mem_cons.mpr ⟨tb432, List.forall_mem_cons.mpr ⟨tb433, List.forall_mem_cons.mpr ⟨tb434, List.forall_mem_cons.mpr ⟨tb435, List.forall_mem_cons.mpr ⟨tb436, List.forall_mem_cons.mpr ⟨tb437, List.forall_mem_cons.mpr ⟨tb438, List.forall_mem_cons.mpr ⟨tb439, List.forall_mem_cons.mpr ⟨tb440, List.forall_mem_cons.mpr ⟨tb441, List.forall_mem_cons.mpr ⟨tb442, List.forall_mem_cons.mpr ⟨tb443, List.forall_mem_cons.mpr ⟨tb444, List.forall_mem_cons.mpr ⟨tb445, List.forall_mem_cons.mpr ⟨tb446, List.forall_mem_cons.mpr ⟨tb447, List.forall_mem_cons.mpr ⟨tb448, List.forall_mem_cons.mpr ⟨tb449, List.forall_mem_cons.mpr ⟨tb450, List.forall_mem_cons.mpr ⟨tb451, List.forall_mem_cons.mpr ⟨tb452, List.forall_mem_cons.mpr ⟨tb453, List.forall_mem_cons.mpr ⟨tb454, List.forall_mem_cons.mpr ⟨tb455, fun _ h => absurd h List.not_mem_nil⟩⟩⟩⟩⟩⟩⟩⟩⟩⟩⟩⟩⟩⟩⟩⟩⟩⟩⟩⟩⟩⟩⟩⟩
theorem wh_wsL_law_r19 : wsL_law_r19.all goodWord = true := by decide +kernel
theorem wg_wsL_law_r20 : ∀ w ∈ wsL_law_r20, w ∈ lw_tbl := List.forall_mem_cons.mpr ⟨tb456, List.forall_mem_cons.mpr ⟨tb457, List.forall_mem_cons.mpr ⟨tb458, List.forall_mem_cons.mpr ⟨tb459, List.forall_mem_cons.mpr ⟨tb460, List.forall_mem_cons.mpr ⟨tb461, List.forall_mem_cons.mpr ⟨tb462, List.forall_mem_cons.mpr ⟨tb463, List.forall_mem_cons.mpr ⟨tb464, List.forall_mem_cons.mpr ⟨tb465, List.forall_mem_cons.mpr ⟨tb466, List.forall_mem_cons.mpr ⟨tb467, List.forall_mem_cons.mpr ⟨tb468, List.forall_mem_cons.mpr ⟨tb469, List.forall_mem_cons.mpr ⟨tb470, List.forall_mem_cons.mpr ⟨tb471, List.forall_mem_cons.mpr ⟨tb472, List.forall_mem_cons.mpr ⟨tb473, List.forall_mem_cons.mpr ⟨tb474, List.forall_mem_cons.mpr ⟨tb475, List.forall_mem_cons.mpr ⟨tb476, List.forall_mem_cons.mpr ⟨tb477, List.forall_mem_cons.mpr ⟨tb478, List.forall_mem_cons.mpr ⟨tb479, fun _ h => absurd h List.not_mem_nil⟩⟩⟩⟩⟩⟩⟩⟩⟩⟩⟩⟩⟩⟩⟩⟩⟩⟩⟩⟩⟩⟩⟩⟩
theorem wh_wsL_law_r20 : wsL_law_r20.all goodWord = true := by decide +kernel
theorem wg_wsL_law_r21 : ∀ w ∈ wsL_law_r21, w ∈ lw_tbl := List.forall_mem_cons.mpr ⟨tb480, List.forall_mem_cons.mpr ⟨tb481, List.forall_mem_cons.mpr ⟨tb482, List.forall_mem_cons.mpr ⟨tb483, List.forall_mem_cons.mpr ⟨tb484, List.forall_mem_cons.mpr ⟨tb485, List.forall_mem_cons.mpr ⟨tb486, List.forall_mem_cons.mpr ⟨tb487, List.forall_mem_cons.mpr ⟨tb488, List.forall_mem_cons.mpr ⟨tb489, List.forall_mem_cons.mpr ⟨tb490, List.forall_mem_cons.mpr ⟨tb491, List.forall_mem_cons.mpr ⟨tb492, List.forall_mem_cons.mpr ⟨tb493, List.forall_mem_cons.mpr ⟨tb494, List.forall_mem_cons.mpr ⟨tb495, List.forall_mem_cons.mpr ⟨tb496, List.forall_mem_cons.mpr ⟨tb497, List.forall_mem_cons.mpr ⟨tb498, List.forall_mem_cons.mpr ⟨tb499, List.forall_mem_cons.mpr ⟨tb500, List.forall_mem_cons.mpr ⟨tb501, List.forall_mem_cons.mpr ⟨tb502, List.forall_mem_cons.mpr ⟨tb503, fun _ h => absurd h List.not_mem_nil⟩⟩⟩⟩⟩⟩⟩⟩⟩⟩⟩⟩⟩⟩⟩⟩⟩⟩⟩⟩⟩⟩⟩⟩
theorem wh_wsL_law_r21 : wsL_law_r21.all goodWord = true := by decide +kernel
theorem wg_wsL_law_r22 : ∀ w ∈ wsL_law_r22, w ∈ lw_tbl := List.forall_mem_cons.mpr ⟨tb504, List.forall_mem_cons.mpr ⟨tb505, List.forall_mem_cons.mpr ⟨tb506, List.forall_mem_cons.mpr ⟨tb507, List.forall_mem_cons.mpr ⟨tb508, List.forall_mem_cons.mpr ⟨tb509, List.forall_mem_cons.mpr ⟨tb510, List.forall_mem_cons.mpr ⟨tb511, List.forall_mem_cons.mpr ⟨tb512, List.forall_mem_cons.mpr ⟨tb513, List.forall_mem_cons.mpr ⟨tb514, List.forall_mem_cons.mpr ⟨tb515, List.forall_mem_cons.mpr ⟨tb516, List.forall_mem_cons.mpr ⟨tb517, List.forall_mem_cons.mpr ⟨tb518, List.forall_mem_cons.mpr ⟨tb519, List.forall_mem_cons.mpr ⟨tb520, List.forall_mem_cons.mpr ⟨tb521, List.forall_mem_cons.mpr ⟨tb522, List.forall_mem_cons.mpr ⟨tb523, List.forall_mem_cons.mpr ⟨tb524, List.forall_mem_cons.mpr ⟨tb525, List.forall_mem_cons.mpr ⟨tb526, List.forall_mem_cons.mpr ⟨tb527, fun _ h => absurd h List.not_mem_nil⟩⟩⟩⟩⟩⟩⟩⟩⟩⟩⟩⟩⟩⟩⟩⟩⟩⟩⟩⟩⟩⟩⟩⟩
theorem wh_wsL_law_r22 : wsL_law_r22.all goodWord = true := by decide +kernel
theorem wg_wsL_law_r23 : ∀ w ∈ wsL_law_r23, w ∈ lw_tbl := List.forall_mem_cons.mpr ⟨tb528, List.forall_mem_cons.mpr ⟨tb529, List.forall_mem_cons.mpr ⟨tb530, List.forall_mem_cons.mpr ⟨tb531, List.forall_mem_cons.mpr ⟨tb532, List.forall_mem_cons.mpr ⟨tb533, List.forall_mem_cons.mpr ⟨tb534, List.forall_mem_cons.mpr ⟨tb535, List.forall_mem_cons.mpr ⟨tb536, List.forall_mem_cons.mpr ⟨tb537, List.forall_mem_cons.mpr ⟨tb538, List.forall_mem_cons.mpr ⟨tb539, List.forall_mem_cons.mpr ⟨tb540, List.forall_mem_cons.mpr ⟨tb541, List.forall_mem_cons.mpr ⟨tb542, List.forall_mem_cons.mpr ⟨tb543, List.forall_mem_cons.mpr ⟨tb544, List.forall_mem_cons.mpr ⟨tb545, List.forall_mem_cons.mpr ⟨tb546, List.forall_mem_cons.mpr ⟨tb547, List.forall_mem_cons.mpr ⟨tb548, List.forall_mem_cons.mpr ⟨tb549, List.forall_mem_cons.mpr ⟨tb550, List.forall_mem_cons.mpr ⟨tb551, fun _ h => absurd h List.not_mem_nil⟩⟩⟩⟩⟩⟩⟩⟩⟩⟩⟩⟩⟩⟩⟩⟩⟩⟩⟩⟩⟩⟩⟩⟩
theorem wh_wsL_law_r23 : wsL_law_r23.all goodWord = true := by decide +kernel
theorem wg_wsL_law_r24 : ∀ w ∈ wsL_law_r24, w ∈ lw_tbl := List.forall_mem_cons.mpr ⟨tb552, List.forall_mem_cons.mpr ⟨tb553, List.forall_mem_cons.mpr ⟨tb554, List.forall_mem_cons.mpr ⟨tb555, List.forall_mem_cons.mpr ⟨tb556, List.forall_mem_cons.mpr ⟨tb557, List.forall_mem_cons.mpr ⟨tb558, List.forall_mem_cons.mpr ⟨tb559, List.forall_mem_cons.mpr ⟨tb560, List.forall_mem_cons.mpr ⟨tb561, List.forall_mem_cons.mpr ⟨tb562, List.forall_mem_cons.mpr ⟨tb563, List.forall_mem_cons.mpr ⟨tb564, List.forall_mem_cons.mpr ⟨tb565, List.forall_mem_cons.mpr ⟨tb566, List.forall_mem_cons.mpr ⟨tb567, List.forall_mem_cons.mpr ⟨tb568, List.forall_mem_cons.mpr ⟨tb569, List.forall_mem_cons.mpr ⟨tb570, List.forall_mem_cons.mpr ⟨tb571, List.forall_mem_cons.mpr ⟨tb572, List.forall_mem_cons.mpr ⟨tb573, List.forall_mem_cons.mpr ⟨tb574, List.forall_mem_cons.mpr ⟨tb575, fun _ h => absurd h List.not_mem_nil⟩⟩⟩⟩⟩⟩⟩⟩⟩⟩⟩⟩⟩⟩⟩⟩⟩⟩⟩⟩⟩⟩⟩⟩
theorem wh_wsL_law_r24 : wsL_law_r24.all goodWord = true := by decide +kernel
theorem wg_wsL_law_r25 : ∀ w ∈ wsL_law_r25, w ∈ lw_tbl := List.forall_mem_cons.mpr ⟨tb576, List.forall_mem_cons.mpr ⟨tb577, List.forall_mem_cons.mpr ⟨tb578, List.forall_mem_cons.mpr ⟨tb579, List.forall_mem_cons.mpr ⟨tb580, List.forall_mem_cons.mpr ⟨tb581, List.forall_mem_cons.mpr ⟨tb582, List.forall_mem_cons.mpr ⟨tb583, List.forall_mem_cons.mpr ⟨tb584, List.forall_mem_cons.mpr ⟨tb585, List.forall_mem_cons.mpr ⟨tb586, List.forall_mem_cons.mpr ⟨tb587, List.forall_mem_cons.mpr ⟨tb588, List.forall_mem_cons.mpr ⟨tb589, List.forall_mem_cons.mpr ⟨tb590, List.forall_mem_cons.mpr ⟨tb591, List.forall_mem_cons.mpr ⟨tb592, List.forall_mem_cons.mpr ⟨tb593, List.forall_mem_cons.mpr ⟨tb594, List.forall_mem_cons.mpr ⟨tb595, List.forall_mem_cons.mpr ⟨tb596, List.forall_mem_cons.mpr ⟨tb597, List.forall_mem_cons.mpr ⟨tb598, List.forall_mem_cons.mpr ⟨tb599, fun _ h => absurd h List.not_mem_nil⟩⟩⟩⟩⟩⟩⟩⟩⟩⟩⟩⟩⟩⟩⟩⟩⟩⟩⟩⟩⟩⟩⟩⟩
theorem wh_wsL_law_r25 : wsL_law_r25.all goodWord = true := by decide +kernel
theorem wg_wsL_law_r26 : ∀ w ∈ wsL_law_r26, w ∈ lw_tbl := List.forall_mem_cons.mpr ⟨tb600, List.forall_mem_cons.mpr ⟨tb601, List.forall_mem_cons.mpr ⟨tb602, List.forall_mem_cons.mpr ⟨tb603, List.forall_mem_cons.mpr ⟨tb604, List.forall_mem_cons.mpr ⟨tb605, List.forall_mem_cons.mpr ⟨tb606, List.forall_mem_cons.mpr ⟨tb607, List.forall_mem_cons.mpr ⟨tb608, List.forall_mem_cons.mpr ⟨tb609, List.forall_mem_cons.mpr ⟨tb610, List.forall_mem_cons.mpr ⟨tb611, List.forall_mem_cons.mpr ⟨tb612, List.forall_mem_cons.mpr ⟨tb613, List.forall_mem_cons.mpr ⟨tb614, List.forall_mem_cons.mpr ⟨tb615, List.forall_mem_cons.mpr ⟨tb616, List.forall_mem_cons.mpr ⟨tb617, List.forall_mem_cons.mpr ⟨tb618, List.forall_mem_cons.mpr ⟨tb619, List.forall_mem_cons.mpr ⟨tb620, List.forall_mem_cons.mpr ⟨tb621, List.forall_mem_cons.mpr ⟨tb622, List.forall_mem_cons.mpr ⟨tb623, fun _ h => absurd h List.not_mem_nil⟩⟩⟩⟩⟩⟩⟩⟩⟩⟩⟩⟩⟩⟩⟩⟩⟩⟩⟩⟩⟩⟩⟩⟩
theorem wh_wsL_law_r26 : wsL_law_r26.all goodWord = true := by decide +kernel
theorem wg_wsL_law_r27 : ∀ w ∈ wsL_law_r27, w ∈ lw_tbl := List.forall_mem_cons.mpr ⟨tb624, List.forall_mem_cons.mpr ⟨tb625, List.forall_mem_cons.mpr ⟨tb626, List.forall_mem_cons.mpr ⟨tb627, List.forall_mem_cons.mpr ⟨tb628, List.forall_mem_cons.mpr ⟨tb629, List.forall_mem_cons.mpr ⟨tb630, List.forall_mem_cons.mpr ⟨tb631, List.forall_mem_cons.mpr ⟨tb632, List.forall_mem_cons.mpr ⟨tb633, List.forall_mem_cons.mpr ⟨tb634, List.forall_mem_cons.mpr ⟨tb635, List.forall_mem_cons.mpr ⟨tb636, List.forall_mem_cons.mpr ⟨tb637, List.forall_mem_cons.mpr ⟨tb638, List.forall_mem_cons.mpr ⟨tb639, List.forall_mem_cons.mpr ⟨tb640, List.forall_mem_cons.mpr ⟨tb641, List.forall_mem_cons.mpr ⟨tb642, List.forall_mem_cons.mpr ⟨tb643, List.forall_mem_cons.mpr ⟨tb644, List.forall_mem_cons.mpr ⟨tb645, List.forall_mem_cons.mpr ⟨tb646, List.forall_mem_cons.mpr ⟨tb647, fun _ h => absurd h List.not_mem_nil⟩⟩⟩⟩⟩⟩⟩⟩⟩⟩⟩⟩⟩⟩⟩⟩⟩⟩⟩⟩⟩⟩⟩⟩
theorem wh_wsL_law_r27 : wsL_law_r27.all goodWord = true := by decide +kernel
theorem wg_wsL_law_r28 : ∀ w ∈ wsL_law_r28, w ∈ lw_tbl := List.forall_mem_cons.mpr ⟨tb648, List.forall_mem_cons.mpr ⟨tb649, List.forall_mem_cons.mpr ⟨tb650, List.forall_mem_cons.mpr ⟨tb651, List.forall_mem_cons.mpr ⟨tb652, List.forall_mem_cons.mpr ⟨tb653, List.forall_mem_cons.mpr ⟨tb654, List.forall_mem_cons.mpr ⟨tb655, List.forall_mem_cons.mpr ⟨tb656, List.forall_mem_cons.mpr ⟨tb657, List.forall_mem_cons.mpr ⟨tb658, List.forall_mem_cons.mpr ⟨tb659, List.forall_mem_cons.mpr ⟨tb660, List.forall_mem_cons.mpr ⟨tb661, List.forall_mem_cons.mpr ⟨tb662, List.forall_mem_cons.mpr ⟨tb663, List.forall_mem_cons.mpr ⟨tb664, List.forall_mem_cons.mpr ⟨tb665, List.forall_mem_cons.mpr ⟨tb666, List.forall_mem_cons.mpr ⟨tb667, List.forall_mem_cons.mpr ⟨tb668, List.forall_mem_cons.mpr ⟨tb669, List.forall_mem_cons.mpr ⟨tb670, List.forall_mem_cons.mpr ⟨tb671, fun _ h => absurd h List.not_mem_nil⟩⟩⟩⟩⟩⟩⟩⟩⟩⟩⟩⟩⟩⟩⟩⟩⟩⟩⟩⟩⟩⟩⟩⟩
theorem wh_wsL_law_r28 : wsL_law_r28.all goodWord = true := by decide +kernel
theorem wg_wsL_law_r29 : ∀ w ∈ wsL_law_r29, w ∈ lw_tbl := List.forall_mem_cons.mpr ⟨tb672, List.forall_mem_cons.mpr ⟨tb673, List.forall_mem_cons.mpr ⟨tb674, List.forall_mem_cons.mpr ⟨tb675, List.forall_mem_cons.mpr ⟨tb676, List.forall_mem_cons.mpr ⟨tb677, List.forall_mem_cons.mpr ⟨tb678, List.forall_mem_cons.mpr ⟨tb679, List.forall_mem_cons.mpr ⟨tb680, List.forall_mem_cons.mpr ⟨tb681, List.forall_mem_cons.mpr ⟨tb682, List.forall_mem_cons.mpr ⟨tb683, List.forall_mem_cons.mpr ⟨tb684, List.forall_mem_cons.mpr ⟨tb685, List.forall_mem_cons.mpr ⟨tb686, List.forall_mem_cons.mpr ⟨tb687, List.forall_mem_cons.mpr ⟨tb688, List.forall_mem_cons.mpr ⟨tb689, List.forall_mem_cons.mpr ⟨tb690, List.forall_mem_cons.mpr ⟨tb691, List.forall_mem_cons.mpr ⟨tb692, List.forall_mem_cons.mpr ⟨tb693, List.forall_mem_cons.mpr ⟨tb694, List.forall_mem_cons.mpr ⟨tb695, fun _ h => absurd h List.not_mem_nil⟩⟩⟩⟩⟩⟩⟩⟩⟩⟩⟩⟩⟩⟩⟩⟩⟩⟩⟩⟩⟩⟩⟩⟩
theorem wh_wsL_law_r29 : wsL_law_r29.all goodWord = true := by decide +kernel
theorem wg_wsL_law_r30 : ∀ w ∈ wsL_law_r30, w ∈ lw_tbl := List.forall_mem_cons.mpr ⟨tb696, List.forall_mem_cons.mpr ⟨tb697, List.forall_mem_cons.mpr ⟨tb698, List.forall_mem_cons.mpr ⟨tb699, List.forall_mem_cons.mpr ⟨tb700, List.forall_mem_cons.mpr ⟨tb701, List.forall_mem_cons.mpr ⟨tb702, List.forall_mem_cons.mpr ⟨tb703, List.forall_mem_cons.mpr ⟨tb704, List.forall_mem_cons.mpr ⟨tb705, List.forall_mem_cons.mpr ⟨tb706, List.forall_mem_cons.mpr ⟨tb707, List.forall_mem_cons.mpr ⟨tb708, List.forall_mem_cons.mpr ⟨tb709, List.forall_mem_cons.mpr ⟨tb710, List.forall_mem_cons.mpr ⟨tb711, List.forall_mem_cons.mpr ⟨tb712, List.forall_mem_cons.mpr ⟨tb713, List.forall_mem_cons.mpr ⟨tb714, List.forall_mem_cons.mpr ⟨tb715, List.forall_mem_cons.mpr ⟨tb716, List.forall_mem_cons.mpr ⟨tb717, List.forall_mem_cons.mpr ⟨tb718, List.forall_mem_cons.mpr ⟨tb719, fun _ h => absurd h List.not_mem_nil⟩⟩⟩⟩⟩⟩⟩⟩⟩⟩⟩⟩⟩⟩⟩⟩⟩⟩⟩⟩⟩⟩⟩⟩
theorem wh_wsL_law_r30 : wsL_law_r30.all goodWord = true := by decide +kernel
theorem wg_wsL_law_r31 : ∀ w ∈ wsL_law_r31, w ∈ lw_tbl := List.forall_mem_cons.mpr ⟨tb720, List.forall_mem_cons.mpr ⟨tb721, List.forall_mem_cons.mpr ⟨tb722, List.forall_mem_cons.mpr ⟨tb723, List.forall_mem_cons.mpr ⟨tb724, List.forall_mem_cons.mpr ⟨tb725, List.forall_mem_cons.mpr ⟨tb726, List.forall_mem_cons.mpr ⟨tb727, List.forall_mem_cons.mpr ⟨tb728, List.forall_mem_cons.mpr ⟨tb729, List.forall_mem_cons.mpr ⟨tb730, List.forall_mem_cons.mpr ⟨tb731, List.forall_mem_cons.mpr ⟨tb732, List.forall_mem_cons.mpr ⟨tb733, List.forall_mem_cons.mpr ⟨tb734, List.forall_mem_cons.mpr ⟨tb735, List.forall_mem_cons.mpr ⟨tb736, List.forall_mem_cons.mpr ⟨tb737, List.forall_mem_cons.mpr ⟨tb738, List.forall_mem_cons.mpr ⟨tb739, List.forall_mem_cons.mpr ⟨tb740, List.forall_mem_cons.mpr ⟨tb741, List.forall_mem_cons.mpr ⟨tb742, List.forall_mem_cons.mpr ⟨tb743, fun _ h => absurd h List.not_mem_nil⟩⟩⟩⟩⟩⟩⟩⟩⟩⟩⟩⟩⟩⟩⟩⟩⟩⟩⟩⟩⟩⟩⟩⟩
theorem wh_wsL_law_r31 : wsL_law_r31.all goodWord = true := by decide +kernel
theorem wg_wsL_law_r32 : ∀ w ∈ wsL_law_r32, w ∈ lw_tbl := List.forall_mem_cons.mpr ⟨tb744, List.forall_mem_cons.mpr ⟨tb745, List.forall_mem_cons.mpr ⟨tb746, List.forall_mem_cons.mpr ⟨tb747, List.forall_mem_cons.mpr ⟨tb748, List.forall_mem_cons.mpr ⟨tb749, List.forall_mem_cons.mpr ⟨tb750, List.forall_mem_cons.mpr ⟨tb751, List.forall_mem_cons.mpr ⟨tb752, List.forall_mem_cons.mpr ⟨tb753, List.forall_mem_cons.mpr ⟨tb754, List.forall_mem_cons.mpr ⟨tb755, List.forall_mem_cons.mpr ⟨tb756, List.forall_mem_cons.mpr ⟨tb757, List.forall_mem_cons.mpr ⟨tb758, List.forall_mem_cons.mpr ⟨tb759, List.forall_mem_cons.mpr ⟨tb760, List.forall_mem_cons.mpr ⟨tb761, List.forall_mem_cons.mpr ⟨tb762, List.forall_mem_cons.mpr ⟨tb763, List.forall_mem_cons.mpr ⟨tb764, List.forall_mem_cons.mpr ⟨tb765, List.forall_mem_cons.mpr ⟨tb766, List.forall_mem_cons.mpr ⟨tb767, fun _ h => absurd h List.not_mem_nil⟩⟩⟩⟩⟩⟩⟩⟩⟩⟩⟩⟩⟩⟩⟩⟩⟩⟩⟩⟩⟩⟩⟩⟩
theorem wh_wsL_law_r32 : wsL_law_r32.all goodWord = true := by decide +kernel
theorem wg_wsL_law_r33 : ∀ w ∈ wsL_law_r33, w ∈ lw_tbl := List.forall_mem_cons.mpr ⟨tb768, List.forall_mem_cons.mpr ⟨tb769, List.forall_mem_cons.mpr ⟨tb770, List.forall_mem_cons.mpr ⟨tb771, List.forall_mem_cons.mpr ⟨tb772, List.forall_mem_cons.mpr ⟨tb773, List.forall_mem_cons.mpr ⟨tb774, List.forall_mem_cons.mpr ⟨tb775, List.forall_mem_cons.mpr ⟨tb776, List.forall_mem_cons.mpr ⟨tb777, List.forall_mem_cons.mpr ⟨tb778, List.forall_mem_cons.mpr ⟨tb779, List.forall_mem_cons.mpr ⟨tb780, List.forall_mem_cons.mpr ⟨tb781, List.forall_mem_cons.mpr ⟨tb782, List.forall_mem_cons.mpr ⟨tb783, List.forall_mem_cons.mpr ⟨tb784, List.forall_mem_cons.mpr ⟨tb785, List.forall_mem_cons.mpr ⟨tb786, List.forall_mem_cons.mpr ⟨tb787, List.forall_mem_cons.mpr ⟨tb788, List.forall_mem_cons.mpr ⟨tb789, List.forall_mem_cons.mpr ⟨tb790, List.forall_mem_cons.mpr ⟨tb791, fun _ h => absurd h List.not_mem_nil⟩⟩⟩⟩⟩⟩⟩⟩⟩⟩⟩⟩⟩⟩⟩⟩⟩⟩⟩⟩⟩⟩⟩⟩
theorem wh_wsL_law_r33 : wsL_law_r33.all goodWord = true := by decide +kernel
theorem wg_wsL_law_r34 : ∀ w ∈ wsL_law_r34, w ∈ lw_tbl := List.forall_mem_cons.mpr ⟨tb792, List.forall_mem_cons.mpr ⟨tb793, List.forall_mem_cons.mpr ⟨tb794, List.forall_mem_cons.mpr ⟨tb795, List.forall_mem_cons.mpr ⟨tb796, List.forall_mem_cons.mpr ⟨tb797, List.forall_mem_cons.mpr ⟨tb798, List.forall_mem_cons.mpr ⟨tb799, List.forall_mem_cons.mpr ⟨tb800, List.forall_mem_cons.mpr ⟨tb801, List.forall_mem_cons.mpr ⟨tb802, List.forall_mem_cons.mpr ⟨tb803, List.forall_mem_cons.mpr ⟨tb804, List.forall_mem_cons.mpr ⟨tb805, List.forall_mem_cons.mpr ⟨tb806, List.forall_mem_cons.mpr ⟨tb807, List.forall_mem_cons.mpr ⟨tb808, List.forall_mem_cons.mpr ⟨tb809, List.forall_mem_cons.mpr ⟨tb810, List.forall_mem_cons.mpr ⟨tb811, List.forall_mem_cons.mpr ⟨tb812, List.forall_mem_cons.mpr ⟨tb813, List.forall_mem_cons.mpr ⟨tb814, List.forall_mem_cons.mpr ⟨tb815, fun _ h => absurd h List.not_mem_nil⟩⟩⟩⟩⟩⟩⟩⟩⟩⟩⟩⟩⟩⟩⟩⟩⟩⟩⟩⟩⟩⟩⟩⟩
theorem wh_wsL_law_r34 : wsL_law_r34.all goodWord = true := by decide +kernel
theorem wg_wsL_law_r35 : ∀ w ∈ wsL_law_r35, w ∈ lw_tbl := List.forall_mem_cons.mpr ⟨tb816, List.forall_mem_cons.mpr ⟨tb817, List.forall_mem_cons.mpr ⟨tb818, List.forall_mem_cons.mpr ⟨tb819, List.forall_mem_cons.mpr ⟨tb820, List.forall_mem_cons.mpr ⟨tb821, List.forall_mem_cons.mpr ⟨tb822, List.forall_mem_cons.mpr ⟨tb823, List.forall_mem_cons.mpr ⟨tb824, List.forall_mem_cons.mpr ⟨tb825, List.forall_mem_cons.mpr ⟨tb826, List.forall_mem_cons.mpr ⟨tb827, List.forall_mem_cons.mpr ⟨tb828, List.forall_mem_cons.mpr ⟨tb829, List.forall_mem_cons.mpr ⟨tb830, List.forall_mem_cons.mpr ⟨tb831, List.forall_mem_cons.mpr ⟨tb832, List.forall_mem_cons.mpr ⟨tb833, List.forall_mem_cons.mpr ⟨tb834, List.forall_mem_cons.mpr ⟨tb835, List.forall_mem_cons.mpr ⟨tb836, List.forall_mem_cons.mpr ⟨tb837, List.forall_mem_cons.mpr ⟨tb838, List.forall_mem_cons.mpr ⟨tb839, fun _ h => absurd h List.not_mem_nil⟩⟩⟩⟩⟩⟩⟩⟩⟩⟩⟩⟩⟩⟩⟩⟩⟩⟩⟩⟩⟩⟩⟩⟩
theorem wh_wsL_law_r35 : wsL_law_r35.all goodWord = true := by decide +kernel
theorem wg_wsL_law_r36 : ∀ w ∈ wsL_law_r36, w ∈ lw_tbl := List.forall_mem_cons.mpr ⟨tb840, List.forall_mem_cons.mpr ⟨tb841, List.forall_mem_cons.mpr ⟨tb842, List.forall_mem_cons.mpr ⟨tb843, List.forall_mem_cons.mpr ⟨tb844, List.forall_mem_cons.mpr ⟨tb845, List.forall_mem_cons.mpr ⟨tb846, List.forall_mem_cons.mpr ⟨tb847, List.forall_mem_cons.mpr ⟨tb848, List.forall_mem_cons.mpr ⟨tb849, List.forall_mem_cons.mpr ⟨tb850, List.forall_mem_cons.mpr ⟨tb851, List.forall_mem_cons.mpr ⟨tb852, List.forall_mem_cons.mpr ⟨tb853, List.forall_mem_cons.mpr ⟨tb854, List.forall_mem_cons.mpr ⟨tb855, List.forall_mem_cons.mpr ⟨tb856, List.forall_mem_cons.mpr ⟨tb857, List.forall_mem_cons.mpr ⟨tb858, List.forall_mem_cons.mpr ⟨tb859, List.forall_mem_cons.mpr ⟨tb860, List.forall_mem_cons.mpr ⟨tb861, List.forall_mem_cons.mpr ⟨tb862, List.forall_mem_cons.mpr ⟨tb863, fun _ h => absurd h List.not_mem_nil⟩⟩⟩⟩⟩⟩⟩⟩⟩⟩⟩⟩⟩⟩⟩⟩⟩⟩⟩⟩⟩⟩⟩⟩
theorem wh_wsL_law_r36 : wsL_law_r36.all goodWord = true := by decide +kernel
theorem wg_wsL_law_r37 : ∀ w ∈ wsL_law_r37, w ∈ lw_tbl := List.forall_mem_cons.mpr ⟨tb864, List.forall_mem_cons.mpr ⟨tb865, List.forall_mem_cons.mpr ⟨tb866, List.forall_mem_cons.mpr ⟨tb867, List.forall_mem_cons.mpr ⟨tb868, List.forall_mem_cons.mpr ⟨tb869, List.forall_mem_cons.mpr ⟨tb870, List.forall_mem_cons.mpr ⟨tb871, List.forall_mem_cons.mpr ⟨tb872, List.forall_mem_cons.mpr ⟨tb873, List.forall_mem_cons.mpr ⟨tb874, List.forall_mem_cons.mpr ⟨tb875, List.forall_mem_cons.mpr ⟨tb876, List.forall_mem_cons.mpr ⟨tb877, List.forall_mem_cons.mpr ⟨tb878, List.forall_mem_cons.mpr ⟨tb879, List.forall_mem_cons.mpr ⟨tb880, List.forall_mem_cons.mpr ⟨tb881, List.forall_mem_cons.mpr ⟨tb882, List.forall_mem_cons.mpr ⟨tb883, List.forall_mem_cons.mpr ⟨tb884, List.forall_mem_cons.mpr ⟨tb885, List.forall_mem_cons.mpr ⟨tb886, List.forall_mem_cons.mpr ⟨tb887, fun _ h => absurd h List.not_mem_nil⟩⟩⟩⟩⟩⟩⟩⟩⟩⟩⟩⟩⟩⟩⟩⟩⟩⟩⟩⟩⟩⟩⟩⟩
theorem wh_wsL_law_r37 : wsL_law_r37.all goodWord = true := by decide +kernel
theorem wg_wsL_law_r38 : ∀ w ∈ wsL_law_r38, w ∈ lw_tbl := List.forall_mem_cons.mpr ⟨tb888, List.forall_mem_cons.mpr ⟨tb889, List.forall_mem_cons.mpr ⟨tb890, List.forall_mem_cons.mpr ⟨tb891, List.forall_mem_cons.mpr ⟨tb892, List.forall_mem_cons.mpr ⟨tb893, List.forall_mem_cons.mpr ⟨tb894, List.forall_mem_cons.mpr ⟨tb895, List.forall_mem_cons.mpr ⟨tb896, List.forall_mem_cons.mpr ⟨tb897, List.forall_mem_cons.mpr ⟨tb898, List.forall_mem_cons.mpr ⟨tb899, List.forall_mem_cons.mpr ⟨tb900, List.forall_mem_cons.mpr ⟨tb901, List.forall_mem_cons.mpr ⟨tb902, List.forall_mem_cons.mpr ⟨tb903, List.forall_mem_cons.mpr ⟨tb904, List.forall_mem_cons.mpr ⟨tb905, List.forall_mem_cons.mpr ⟨tb906, List.forall_mem_cons.mpr ⟨tb907, List.forall_mem_cons.mpr ⟨tb908, List.forall_mem_cons.mpr ⟨tb909, List.forall_mem_cons.mpr ⟨tb910, List.forall_mem_cons.mpr ⟨tb911, fun _ h => absurd h List.not_mem_nil⟩⟩⟩⟩⟩⟩⟩⟩⟩⟩⟩⟩⟩⟩⟩⟩⟩⟩⟩⟩⟩⟩⟩⟩
theorem wh_wsL_law_r38 : wsL_law_r38.all goodWord = true := by decide +kernel
theorem wg_wsL_law_r39 : ∀ w ∈ wsL_law_r39, w ∈ lw_tbl := List.forall_mem_cons.mpr ⟨tb912, List.forall_mem_cons.mpr ⟨tb913, List.forall_mem_cons.mpr ⟨tb914, List.forall_mem_cons.mpr ⟨tb915, List.forall_mem_cons.mpr ⟨tb916, List.forall_mem_cons.mpr ⟨tb917, List.forall_mem_cons.mpr ⟨tb918, List.forall_mem_cons.mpr ⟨tb919, List.forall_mem_cons.mpr ⟨tb920, List.forall_mem_cons.mpr ⟨tb921, List.forall_mem_cons.mpr ⟨tb922, List.forall_mem_cons.mpr ⟨tb923, List.forall_mem_cons.mpr ⟨tb924, List.forall_mem_cons.mpr ⟨tb925, List.forall_mem_cons.mpr ⟨tb926, List.forall_mem_cons.mpr ⟨tb927, List.forall_mem_cons.mpr ⟨tb928, List.forall_mem_cons.mpr ⟨tb929, List.forall_mem_cons.mpr ⟨tb930, List.forall_mem_cons.mpr ⟨tb931, List.forall_mem_cons.mpr ⟨tb932, List.forall_mem_cons.mpr ⟨tb933, List.forall_mem_cons.mpr ⟨tb934, List.forall_mem_cons.mpr ⟨tb935, fun _ h => absurd h List.not_mem_nil⟩⟩⟩⟩⟩⟩⟩⟩⟩⟩⟩⟩⟩⟩⟩⟩⟩⟩⟩⟩⟩⟩⟩⟩
theorem wh_wsL_law_r39 : wsL_law_r39.all goodWord = true := by decide +kernel
theorem wg_wsL_law_r40 : ∀ w ∈ wsL_law_r40, w ∈ lw_tbl := List.forall_mem_cons.mpr ⟨tb936, List.forall_mem_cons.mpr ⟨tb937, List.forall_mem_cons.mpr ⟨tb938, List.forall_mem_cons.mpr ⟨tb939, List.forall_mem_cons.mpr ⟨tb940, List.forall_mem_cons.mpr ⟨tb941, List.forall_mem_cons.mpr ⟨tb942, List.forall_mem_cons.mpr ⟨tb943, List.forall_mem_cons.mpr ⟨tb944, List.forall_mem_cons.mpr ⟨tb945, List.forall_mem_cons.mpr ⟨tb946, List.forall_mem_cons.mpr ⟨tb947, List.forall_mem_cons.mpr ⟨tb948, List.forall_mem_cons.mpr ⟨tb949, List.forall_mem_cons.mpr ⟨tb950, List.forall_mem_cons.mpr ⟨tb951, List.forall_mem_cons.mpr ⟨tb952, List.forall_mem_cons.mpr ⟨tb953, List.forall_mem_cons.mpr ⟨tb954, List.forall_mem_cons.mpr ⟨tb955, List.forall_mem_cons.mpr ⟨tb956, List.forall_mem_cons.mpr ⟨tb957, List.forall_mem_cons.mpr ⟨tb958, List.forall_mem_cons.mpr ⟨tb959, fun _ h => absurd h List.not_mem_nil⟩⟩⟩⟩⟩⟩⟩⟩⟩⟩⟩⟩⟩⟩⟩⟩⟩⟩⟩⟩⟩⟩⟩⟩
theorem wh_wsL_law_r40 : wsL_law_r40.all goodWord = true := by decide +kernel
theorem wg_wsL_law_r41 : ∀ w ∈ wsL_law_r41, w ∈ lw_tbl := List.forall_mem_cons.mpr ⟨tb960, List.forall_mem_cons.mpr ⟨tb961, List.forall_mem_cons.mpr ⟨tb962, List.forall_mem_cons.mpr ⟨tb963, List.forall_mem_cons.mpr ⟨tb964, List.forall_mem_cons.mpr ⟨tb965, List.forall_mem_cons.mpr ⟨tb966, List.forall_mem_cons.mpr ⟨tb967, List.forall_mem_cons.mpr ⟨tb968, List.forall_mem_cons.mpr ⟨tb969, List.forall_mem_cons.mpr ⟨tb970, List.forall_mem_cons.mpr ⟨tb971, List.forall_mem_cons.mpr ⟨tb972, List.forall_mem_cons.mpr ⟨tb973, List.forall_mem_cons.mpr ⟨tb974, List.forall_mem_cons.mpr ⟨tb975, List.forall_mem_cons.mpr ⟨tb976, List.forall_mem_cons.mpr ⟨tb977, List.forall_mem_cons.mpr ⟨tb978, List.forall_mem_cons.mpr ⟨tb979, List.forall_mem_cons.mpr ⟨tb980, List.forall_mem_cons.mpr ⟨tb981, List.forall_mem_cons.mpr ⟨tb982, List.forall_mem_cons.mpr ⟨tb983, fun _ h => absurd h List.not_mem_nil⟩⟩⟩⟩⟩⟩⟩⟩⟩⟩⟩⟩⟩⟩⟩⟩⟩⟩⟩⟩⟩⟩⟩⟩
theorem wh_wsL_law_r41 : wsL_law_r41.all goodWord = true := by decide +kernel
theorem wg_wsL_law_r42 : ∀ w ∈ wsL_law_r42, w ∈ lw_tbl := List.forall_mem_cons.mpr ⟨tb984, List.forall_mem_cons.mpr ⟨tb985, List.forall_mem_cons.mpr ⟨tb986, List.forall_mem_cons.mpr ⟨tb987, List.forall_mem_cons.mpr ⟨tb988, List.forall_mem_cons.mpr ⟨tb989, List.forall_mem_cons.mpr ⟨tb990, List.forall_mem_cons.mpr ⟨tb991, List.forall_mem_cons.mpr ⟨tb992, List.forall_mem_cons.mpr ⟨tb993, List.forall_mem_cons.mpr ⟨tb994, List.forall_mem_cons.mpr ⟨tb995, List.forall_mem_cons.mpr ⟨tb996, List.forall_mem_cons.mpr ⟨tb997, List.forall_mem_cons.mpr ⟨tb998, List.forall_mem_cons.mpr ⟨tb999, List.forall_mem_cons.mpr ⟨tb1000, List.forall_mem_cons.mpr ⟨tb1001, List.forall_mem_cons.mpr ⟨tb1002, List.forall_mem_cons.mpr ⟨tb1003, List.forall_mem_cons.mpr ⟨tb1004, List.forall_mem_cons.mpr ⟨tb1005, List.forall_mem_cons.mpr ⟨tb1006, List.forall_mem_cons.mpr ⟨tb1007, fun _ h => absurd h List.not_mem_nil⟩⟩⟩⟩⟩⟩⟩⟩⟩⟩⟩⟩⟩⟩⟩⟩⟩⟩⟩⟩⟩⟩⟩⟩
theorem wh_wsL_law_r42 : wsL_law_r42.all goodWord = true := by decide +kernel
theorem wg_wsL_law_r43 : ∀ w ∈ wsL_law_r43, w ∈ lw_tbl := List.forall_mem_cons.mpr ⟨tb1008, List.forall_mem_cons.mpr ⟨tb1009, List.forall_mem_cons.mpr ⟨tb1010, List.forall_mem_cons.mpr ⟨tb1011, List.forall_mem_cons.mpr ⟨tb1012, List.forall_mem_cons.mpr ⟨tb1013, List.forall_mem_cons.mpr ⟨tb1014, List.forall_mem_cons.mpr ⟨tb1015, List.forall_mem_cons.mpr ⟨tb1016, List.forall_mem_cons.mpr ⟨tb1017, List.forall_mem_cons.mpr ⟨tb1018, List.forall_mem_cons.mpr ⟨tb1019, List.forall_mem_cons.mpr ⟨tb1020, List.forall_mem_cons.mpr ⟨tb1021, List.forall_mem_cons.mpr ⟨tb1022, List.forall_mem_cons.mpr ⟨tb1023, List.forall_mem_cons.mpr ⟨tb1024, List.forall_mem_cons.mpr ⟨tb1025, List.forall_mem_cons.mpr ⟨tb1026, List.forall_mem_cons.mpr ⟨tb1027, List.forall_mem_cons.mpr ⟨tb1028, List.forall_mem_cons.mpr ⟨tb1029, List.forall_mem_cons.mpr ⟨tb1030, List.forall_mem_cons.mpr ⟨tb1031, fun _ h => absurd h List.not_mem_nil⟩⟩⟩⟩⟩⟩⟩⟩⟩⟩⟩⟩⟩⟩⟩⟩⟩⟩⟩⟩⟩⟩⟩⟩
theorem wh_wsL_law_r43 : wsL_law_r43.all goodWord = true := by decide +kernel
theorem wg_wsL_law_r44 : ∀ w ∈ wsL_law_r44, w ∈ lw_tbl := List.forall_mem_cons.mpr ⟨tb1032, List.forall_mem_cons.mpr ⟨tb1033, List.forall_mem_cons.mpr ⟨tb1034, List.forall_mem_cons.mpr ⟨tb1035, List.forall_mem_cons.mpr ⟨tb1036, List.forall_mem_cons.mpr ⟨tb1037, List.forall_mem_cons.mpr ⟨tb1038, List.forall_mem_cons.mpr ⟨tb1039, List.forall_mem_cons.mpr ⟨tb1040, List.forall_mem_cons.mpr ⟨tb1041, List.forall_mem_cons.mpr ⟨tb1042, List.forall_mem_cons.mpr ⟨tb1043, List.forall_mem_cons.mpr ⟨tb1044, List.forall_mem_cons.mpr ⟨tb1045, List.forall_mem_cons.mpr ⟨tb1046, List.forall_mem_cons.mpr ⟨tb1047, List.forall_mem_cons.mpr ⟨tb1048, List.forall_mem_cons.mpr ⟨tb1049, List.forall_mem_cons.mpr ⟨tb1050, List.forall_mem_cons.mpr ⟨tb1051, List.forall_mem_cons.mpr ⟨tb1052, List.forall_mem_cons.mpr ⟨tb1053, List.forall_mem_cons.mpr ⟨tb1054, List.forall_mem_cons.mpr ⟨tb1055, fun _ h => absurd h List.not_mem_nil⟩⟩⟩⟩⟩⟩⟩⟩⟩⟩⟩⟩⟩⟩⟩⟩⟩⟩⟩⟩⟩⟩⟩⟩
theorem wh_wsL_law_r44 : wsL_law_r44.all goodWord = true := by decide +kernel
theorem wg_wsL_law_r45 : ∀ w ∈ wsL_law_r45, w ∈ lw_tbl := List.forall_mem_cons.mpr ⟨tb1056, List.forall_mem_cons.mpr ⟨tb1057, List.forall_mem_cons.mpr ⟨tb1058, List.forall_mem_cons.mpr ⟨tb1059, List.forall_mem_cons.mpr ⟨tb1060, List.forall_mem_cons.mpr ⟨tb1061, List.forall_mem_cons.mpr ⟨tb1062, List.forall_mem_cons.mpr ⟨tb1063, List.forall_mem_cons.mpr ⟨tb1064, List.forall_mem_cons.mpr ⟨tb1065, List.forall_mem_cons.mpr ⟨tb1066, List.forall_mem_cons.mpr ⟨tb1067, List.forall_mem_cons.mpr ⟨tb1068, List.forall_mem_cons.mpr ⟨tb1069, List.forall_mem_cons.mpr ⟨tb1070, List.forall_mem_cons.mpr ⟨tb1071, List.forall_mem_cons.mpr ⟨tb1072, List.forall_mem_cons.mpr ⟨tb1073, List.forall_mem_cons.mpr ⟨tb1074, List.forall_mem_cons.mpr ⟨tb1075, List.forall_mem_cons.mpr ⟨tb1076, List.forall_mem_cons.mpr ⟨tb1077, List.forall_mem_cons.mpr ⟨tb1078, List.forall_mem_cons.mpr ⟨tb1079, fun _ h => absurd h List.not_mem_nil⟩⟩⟩⟩⟩⟩⟩⟩⟩⟩⟩⟩⟩⟩⟩⟩⟩⟩⟩⟩⟩⟩⟩⟩
theorem wh_wsL_law_r45 : wsL_law_r45.all goodWord = true := by decide +kernel
theorem wg_wsL_law_r46 : ∀ w ∈ wsL_law_r46, w ∈ lw_tbl := List.forall_mem_cons.mpr ⟨tb1080, List.forall_mem_cons.mpr ⟨tb1081, List.forall_mem_cons.mpr ⟨tb1082, List.forall_mem_cons.mpr ⟨tb1083, List.forall_mem_cons.mpr ⟨tb1084, List.forall_mem_cons.mpr ⟨tb1085, List.forall_mem_cons.mpr ⟨tb1086, List.forall_mem_cons.mpr ⟨tb1087, List.forall_mem_cons.mpr ⟨tb1088, List.forall_mem_cons.mpr ⟨tb1089, List.forall_mem_cons.mpr ⟨tb1090, List.forall_mem_cons.mpr ⟨tb1091, List.forall_mem_cons.mpr ⟨tb1092, List.forall_mem_cons.mpr ⟨tb1093, List.forall_mem_cons.mpr ⟨tb1094, List.forall_mem_cons.mpr ⟨tb1095, List.forall_mem_cons.mpr ⟨tb1096, List.forall_mem_cons.mpr ⟨tb1097, List.forall_mem_cons.mpr ⟨tb1098, List.forall_mem_cons.mpr ⟨tb1099, List.forall_mem_cons.mpr ⟨tb1100, List.forall_mem_cons.mpr ⟨tb1101, List.forall_mem_cons.mpr ⟨tb1102, List.forall_mem_cons.mpr ⟨tb1103, fun _ h => absurd h List.not_mem_nil⟩⟩⟩⟩⟩⟩⟩⟩⟩⟩⟩⟩⟩⟩⟩⟩⟩⟩⟩⟩⟩⟩⟩⟩
theorem wh_wsL_law_r46 : wsL_law_r46.all goodWord = true := by decide +kernel
theorem wg_wsL_law_r47 : ∀ w ∈ wsL_law_r47, w ∈ lw_tbl := List.forall_mem_cons.mpr ⟨tb1104, List.forall_mem_cons.mpr ⟨tb1105, List.forall_mem_cons.mpr ⟨tb1106, List.forall_mem_cons.mpr ⟨tb1107, List.forall_mem_cons.mpr ⟨tb1108, List.forall_mem_cons.mpr ⟨tb1109, List.forall_mem_cons.mpr ⟨tb1110, List.forall_mem_cons.mpr ⟨tb1111, List.forall_mem_cons.mpr ⟨tb1112, List.forall_mem_cons.mpr ⟨tb1113, List.forall_mem_cons.mpr ⟨tb1114, List.forall_mem_cons.mpr ⟨tb1115, List.forall_mem_cons.mpr ⟨tb1116, List.forall_mem_cons.mpr ⟨tb1117, List.forall_mem_cons.mpr ⟨tb1118, List.forall_mem_cons.mpr ⟨tb1119, List.forall_mem_cons.mpr ⟨tb1120, List.forall_mem_cons.mpr ⟨tb1121, List.forall_mem_cons.mpr ⟨tb1122, List.forall_mem_cons.mpr ⟨tb1123, List.forall_mem_cons.mpr ⟨tb1124, List.forall_mem_cons.mpr ⟨tb1125, List.forall_mem_cons.mpr ⟨tb1126, List.forall_mem_cons.mpr ⟨tb1127, fun _ h => absurd h List.not_mem_nil⟩⟩⟩⟩⟩⟩⟩⟩⟩⟩⟩⟩⟩⟩⟩⟩⟩⟩⟩⟩⟩⟩⟩⟩
theorem wh_wsL_law_r47 : wsL_law_r47.all goodWord = true := by decide +kernel
theorem wg_wsL_law_r48 : ∀ w ∈ wsL_law_r48, w ∈ lw_tbl := List.forall_mem_cons.mpr ⟨tb1128, List.forall_mem_cons.mpr ⟨tb1129, List.forall_mem_cons.mpr ⟨tb1130, List.forall_mem_cons.mpr ⟨tb1131, List.forall_mem_cons.mpr ⟨tb1132, List.forall_mem_cons.mpr ⟨tb1133, List.forall_mem_cons.mpr ⟨tb1134, List.forall_mem_cons.mpr ⟨tb1135, List.forall_mem_cons.mpr ⟨tb1136, List.forall_mem_cons.mpr ⟨tb1137, List.forall_mem_cons.mpr ⟨tb1138, List.forall_mem_cons.mpr ⟨tb1139, List.forall_mem_cons.mpr ⟨tb1140, List.forall_mem_cons.mpr ⟨tb1141, List.forall_mem_cons.mpr ⟨tb1142, List.forall_mem_cons.mpr ⟨tb1143, List.forall_mem_cons.mpr ⟨tb1144, List.forall_mem_cons.mpr ⟨tb1145, List.forall_mem_cons.mpr ⟨tb1146, List.forall_mem_cons.mpr ⟨tb1147, List.forall_mem_cons.mpr ⟨tb1148, List.forall_mem_cons.mpr ⟨tb1149, List.forall_mem_cons.mpr ⟨tb1150, List.forall_mem_cons.mpr ⟨tb1151, fun _ h => absurd h List.not_mem_nil⟩⟩⟩⟩⟩⟩⟩⟩⟩⟩⟩⟩⟩⟩⟩⟩⟩⟩⟩⟩⟩⟩⟩⟩
theorem wh_wsL_law_r48 : wsL_law_r48.all goodWord = true := by decide +kernel
theorem wg_wsL_law_r49 : ∀ w ∈ wsL_law_r49, w ∈ lw_tbl := List.forall_mem_cons.mpr ⟨tb1152, fun _ h => absurd h List.not_mem_nil⟩
theorem wh_wsL_law_r49 : wsL_law_r49.all goodWord = true := by decide +kernel
theorem wg_wsX110 : ∀ w ∈ wsX110, w ∈ lw_tbl := by decide +kernel
theorem wh_wsX110 : wsX110.all goodWord = true := by decide +kernel
theorem wg_wsX120 : ∀ w ∈ wsX120, w ∈ lw_tbl := by decide +kernel
theorem wh_wsX120 : wsX120.all goodWord = true := by decide +kernel
theorem wg_wsX20 : ∀ w ∈ wsX20, w ∈ lw_tbl := by decide +kernel
theorem wh_wsX20 : wsX20.all goodWord = true := by decide +kernel
theorem wg_wsX80 : ∀ w ∈ wsX80, w ∈ lw_tbl := by decide +kernel
theorem wh_wsX80 : wsX80.all goodWord = true := by decide +kernel
theorem wg_wsX60 : ∀ w ∈ wsX60, w ∈ lw_tbl := by decide +kernel
theorem wh_wsX60 : wsX60.all goodWord = true := by decide +kernel
theorem wg_wsX50 : ∀ w ∈ wsX50, w ∈ lw_tbl := by decide +kernel
theorem wh_wsX50 : wsX50.all goodWord = true := by decide +kernel
theorem wg_wsX100 : ∀ w ∈ wsX100, w ∈ lw_tbl := by decide +kernel
theorem wh_wsX100 : wsX100.all goodWord = true := by decide +kernel
theorem wg_wsX00 : ∀ w ∈ wsX00, w ∈ lw_tbl := by decide +kernel
theorem wh_wsX00 : wsX00.all goodWord = true := by decide +kernel
theorem wg_wsX30 : ∀ w ∈ wsX30, w ∈ lw_tbl := by decide +kernel
theorem wh_wsX30 : wsX30.all goodWord = true := by decide +kernel
theorem wg_wsX90 : ∀ w ∈ wsX90, w ∈ lw_tbl := by decide +kernel
theorem wh_wsX90 : wsX90.all goodWord = true := by decide +kernel
theorem wg_wsX10 : ∀ w ∈ wsX10, w ∈ lw_tbl := by decide +kernel
theorem wh_wsX10 : wsX10.all goodWord = true := by decide +kernel
theorem wg_wsX70 : ∀ w ∈ wsX70, w ∈ lw_tbl := by decide +kernel
theorem wh_wsX70 : wsX70.all goodWord = true := by decide +kernel
theorem wg_wsX40 : ∀ w ∈ wsX40, w ∈ lw_tbl := by decide +kernel
theorem wh_wsX40 : wsX40.all goodWord = true := by decide +kernel
theorem wsL_law_g : GoodIn lw_tbl wsL_law := goodIn_app (goodIn_app (goodIn_app (goodIn_app (goodIn_app (goodIn_app (goodIn_app (goodIn_app (goodIn_app (goodIn_app (goodIn_app (goodIn_app (goodIn_app (goodIn_app (goodIn_app (fun w h => ⟨wg_wsL_law_r1 w h, good_of_word (List.all_eq_true.mp wh_wsL_law_r1 w h)⟩ : GoodIn lw_tbl wsL_law_r1) (goodIn_app (fun w h => ⟨wg_wsL_law_r2 w h, good_of_word (List.all_eq_true.mp wh_wsL_law_r2 w h)⟩ : GoodIn lw_tbl wsL_law_r2) (goodIn_app (fun w h => ⟨wg_wsL_law_r3 w h, good_of_word (List.all_eq_true.mp wh_wsL_law_r3 w h)⟩ : GoodIn lw_tbl wsL_law_r3) (goodIn_app (fun w h => ⟨wg_wsL_law_r4 w h, good_of_word (List.all_eq_true.mp wh_wsL_law_r4 w h)⟩ : GoodIn lw_tbl wsL_law_r4) (goodIn_app (fun w h => ⟨wg_wsL_law_r5 w h, good_of_word (List.all_eq_true.mp wh_wsL_law_r5 w h)⟩ : GoodIn lw_tbl wsL_law_r5) (goodIn_app (fun w h => ⟨wg_wsL_law_r6 w h, good_of_word (List.all_eq_true.mp wh_wsL_law_r6 w h)⟩ : GoodIn lw_tbl wsL_law_r6) (goodIn_app (fun w h => ⟨wg_wsL_law_r7 w h, good_of_word (List.all_eq_true.mp wh_wsL_law_r7 w h)⟩ : GoodIn lw_tbl wsL_law_r7) (goodIn_app (fun w h => ⟨wg_wsL_law_r8 w h, good_of_word (List.all_eq_true.mp wh_wsL_law_r8 w h)⟩ : GoodIn lw_tbl wsL_law_r8) (goodIn_app (fun w h => ⟨wg_wsL_law_r9 w h, good_of_word (List.all_eq_true.mp wh_wsL_law_r9 w h)⟩ : GoodIn lw_tbl wsL_law_r9) (goodIn_app (fun w h => ⟨wg_wsL_law_r10 w h, good_of_word (List.all_eq_true.mp wh_wsL_law_r10 w h)⟩ : GoodIn lw_tbl wsL_law_r10) (goodIn_app (fun w h => ⟨wg_wsL_law_r11 w h, good_of_word (List.all_eq_true.mp wh_wsL_law_r11 w h)⟩ : GoodIn lw_tbl wsL_law_r11) (goodIn_app (fun w h => ⟨wg_wsL_law_r12 w h, good_of_word (List.all_eq_true.mp wh_wsL_law_r12 w h)⟩ : GoodIn lw_tbl wsL_law_r12) (goodIn_app (fun w h => ⟨wg_wsL_law_r13 w h, good_of_word (List.all_eq_true.mp wh_wsL_law_r13 w h)⟩ : GoodIn lw_tbl wsL_law_r13) (goodIn_app (fun w h => ⟨wg_wsL_law_r14 w h, good_of_word (List.all_eq_true.mp wh_wsL_law_r14 w h)⟩ : GoodIn lw_tbl wsL_law_r14) (goodIn_app (fun w h => ⟨wg_wsL_law_r15 w h, good_of_word (List.all_eq_true.mp wh_wsL_law_r15 w h)⟩ : GoodIn lw_tbl wsL_law_r15) (goodIn_app (fun w h => ⟨wg_wsL_law_r16 w h, good_of_word (List.all_eq_true.mp wh_wsL_law_r16 w h)⟩ : GoodIn lw_tbl wsL_law_r16) (goodIn_app (fun w h => ⟨wg_wsL_law_r17 w h, good_of_word (List.all_eq_true.mp wh_wsL_law_r17 w h)⟩ : GoodIn lw_tbl wsL_law_r17) (goodIn_app (fun w h => ⟨wg_wsL_law_r18 w h, good_of_word (List.all_eq_true.mp wh_wsL_law_r18 w h)⟩ : GoodIn lw_tbl wsL_law_r18) (goodIn_app (fun w h => ⟨wg_wsL_law_r19 w h, good_of_word (List.all_eq_true.mp wh_wsL_law_r19 w h)⟩ : GoodIn lw_tbl wsL_law_r19) (goodIn_app (fun w h => ⟨wg_wsL_law_r20 w h, good_of_word (List.all_eq_true.mp wh_wsL_law_r20 w h)⟩ : GoodIn lw_tbl wsL_law_r20) (goodIn_app (fun w h => ⟨wg_wsL_law_r21 w h, good_of_word (List.all_eq_true.mp wh_wsL_law_r21 w h)⟩ : GoodIn lw_tbl wsL_law_r21) (goodIn_app (fun w h => ⟨wg_wsL_law_r22 w h, good_of_word (List.all_eq_true.mp wh_wsL_law_r22 w h)⟩ : GoodIn lw_tbl wsL_law_r22) (goodIn_app (fun w h => ⟨wg_wsL_law_r23 w h, good_of_word (List.all_eq_true.mp wh_wsL_law_r23 w h)⟩ : GoodIn lw_tbl wsL_law_r23) (goodIn_app (fun w h => ⟨wg_wsL_law_r24 w h, good_of_word (List.all_eq_true.mp wh_wsL_law_r24 w h)⟩ : GoodIn lw_tbl wsL_law_r24) (goodIn_app (fun w h => ⟨wg_wsL_law_r25 w h, good_of_word (List.all_eq_true.mp wh_wsL_law_r25 w h)⟩ : GoodIn lw_tbl wsL_law_r25) (goodIn_app (fun w h => ⟨wg_wsL_law_r26 w h, good_of_word (List.all_eq_true.mp wh_wsL_law_r26 w h)⟩ : GoodIn lw_tbl wsL_law_r26) (goodIn_app (fun w h => ⟨wg_wsL_law_r27 w h, good_of_word (List.all_eq_true.mp wh_wsL_law_r27 w h)⟩ : GoodIn lw_tbl wsL_law_r27) (goodIn_app (fun w h => ⟨wg_wsL_law_r28 w h, good_of_word (List.all_eq_true.mp wh_wsL_law_r28 w h)⟩ : GoodIn lw_tbl wsL_law_r28) (goodIn_app (fun w h => ⟨wg_wsL_law_r29 w h, good_of_word (List.all_eq_true.mp wh_wsL_law_r29 w h)⟩ : GoodIn lw_tbl wsL_law_r29) (goodIn_app (fun w h => ⟨wg_wsL_law_r30 w h, good_of_word (List.all_eq_true.mp wh_wsL_law_r30 w h)⟩ : GoodIn lw_tbl wsL_law_r30) (goodIn_app (fun w h => ⟨wg_wsL_law_r31 w h, good_of_word (List.all_eq_true.mp wh_wsL_law_r31 w h)⟩ : GoodIn lw_tbl wsL_law_r31) (goodIn_app (fun w h => ⟨wg_wsL_law_r32 w h, good_of_word (List.all_eq_true.mp wh_wsL_law_r32 w h)⟩ : GoodIn lw_tbl wsL_law_r32) (goodIn_app (fun w h => ⟨wg_wsL_law_r33 w h, good_of_word (List.all_eq_true.mp wh_wsL_law_r33 w h)⟩ : GoodIn lw_tbl wsL_law_r33) (goodIn_app (fun w h => ⟨wg_wsL_law_r34 w h, good_of_word (List.all_eq_true.mp wh_wsL_law_r34 w h)⟩ : GoodIn lw_tbl wsL_law_r34) (goodIn_app (fun w h => ⟨wg_wsL_law_r35 w h, good_of_word (List.all_eq_true.mp wh_wsL_law_r35 w h)⟩ : GoodIn lw_tbl wsL_law_r35) (goodIn_app (fun w h => ⟨wg_wsL_law_r36 w h, good_of_word (List.all_eq_true.mp wh_wsL_law_r36 w h)⟩ : GoodIn lw_tbl wsL_law_r36) (goodIn_app (fun w h => ⟨wg_wsL_law_r37 w h, good_of_word (List.all_eq_true.mp wh_wsL_law_r37 w h)⟩ : GoodIn lw_tbl wsL_law_r37) (goodIn_app (fun w h => ⟨wg_wsL_law_r38 w h, good_of_word (List.all_eq_true.mp wh_wsL_law_r38 w h)⟩ : GoodIn lw_tbl wsL_law_r38) (goodIn_app (fun w h => ⟨wg_wsL_law_r39 w h, good_of_word (List.all_eq_true.mp wh_wsL_law_r39 w h)⟩ : GoodIn lw_tbl wsL_law_r39) (goodIn_app (fun w h => ⟨wg_wsL_law_r40 w h, good_of_word (List.all_eq_true.mp wh_wsL_law_r40 w h)⟩ : GoodIn lw_tbl wsL_law_r40) (goodIn_app (fun w h => ⟨wg_wsL_law_r41 w h, good_of_word (List.all_eq_true.mp wh_wsL_law_r41 w h)⟩ : GoodIn lw_tbl wsL_law_r41) (goodIn_app (fun w h => ⟨wg_wsL_law_r42 w h, good_of_word (List.all_eq_true.mp wh_wsL_law_r42 w h)⟩ : GoodIn lw_tbl wsL_law_r42) (goodIn_app (fun w h => ⟨wg_wsL_law_r43 w h, good_of_word (List.all_eq_true.mp wh_wsL_law_r43 w h)⟩ : GoodIn lw_tbl wsL_law_r43) (goodIn_app (fun w h => ⟨wg_wsL_law_r44 w h, good_of_word (List.all_eq_true.mp wh_wsL_law_r44 w h)⟩ : GoodIn lw_tbl wsL_law_r44) (goodIn_app (fun w h => ⟨wg_wsL_law_r45 w h, good_of_word (List.all_eq_true.mp wh_wsL_law_r45 w h)⟩ : GoodIn lw_tbl wsL_law_r45) (goodIn_app (fun w h => ⟨wg_wsL_law_r46 w h, good_of_word (List.all_eq_true.mp wh_wsL_law_r46 w h)⟩ : GoodIn lw_tbl wsL_law_r46) (goodIn_app (fun w h => ⟨wg_wsL_law_r47 w h, good_of_word (List.all_eq_true.mp wh_wsL_law_r47 w h)⟩ : GoodIn lw_tbl wsL_law_r47) (goodIn_app (fun w h => ⟨wg_wsL_law_r48 w h, good_of_word (List.all_eq_true.mp wh_wsL_law_r48 w h)⟩ : GoodIn lw_tbl wsL_law_r48) ((fun w h => ⟨wg_wsL_law_r49 w h, good_of_word (List.all_eq_true.mp wh_wsL_law_r49 w h)⟩ : GoodIn lw_tbl wsL_law_r49)))))))))))))))))))))))))))))))))))))))))))))))))) (fun w h => ⟨wg_wsX110 w h, good_of_word (List.all_eq_true.mp wh_wsX110 w h)⟩ : GoodIn lw_tbl wsX110)) (fun w h => ⟨wg_wsX120 w h, good_of_word (List.all_eq_true.mp wh_wsX120 w h)⟩ : GoodIn lw_tbl wsX120)) (fun w h => ⟨wg_wsX20 w h, good_of_word (List.all_eq_true.mp wh_wsX20 w h)⟩ : GoodIn lw_tbl wsX20)) (fun w h => ⟨wg_wsX80 w h, good_of_word (List.all_eq_true.mp wh_wsX80 w h)⟩ : GoodIn lw_tbl wsX80)) (fun w h => ⟨wg_wsX60 w h, good_of_word (List.all_eq_true.mp wh_wsX60 w h)⟩ : GoodIn lw_tbl wsX60)) (fun w h => ⟨wg_wsX50 w h, good_of_word (List.all_eq_true.mp wh_wsX50 w h)⟩ : GoodIn lw_tbl wsX50)) (fun w h => ⟨wg_wsX100 w h, good_of_word (List.all_eq_true.mp wh_wsX100 w h)⟩ : GoodIn lw_tbl wsX100)) (fun w h => ⟨wg_wsX00 w h, good_of_word (List.all_eq_true.mp wh_wsX00 w h)⟩ : GoodIn lw_tbl wsX00)) (fun w h => ⟨wg_wsX30 w h, good_of_word (List.all_eq_true.mp wh_wsX30 w h)⟩ : GoodIn lw_tbl wsX30)) (fun w h => ⟨wg_wsX90 w h, good_of_word (List.all_eq_true.mp wh_wsX90 w h)⟩ : GoodIn lw_tbl wsX90)) (fun w h => ⟨wg_wsX10 w h, good_of_word (List.all_eq_true.mp wh_wsX10 w h)⟩ : GoodIn lw_tbl wsX10)) (fun w h => ⟨wg_wsX70 w h, good_of_word (List.all_eq_true.mp wh_wsX70 w h)⟩ : GoodIn lw_tbl wsX70)) (fun w h => ⟨wg_wsX40 w h, good_of_word (List.all_eq_true.mp wh_wsX40 w h)⟩ : GoodIn lw_tbl wsX40)) (fun _ h => absurd h List.not_mem_nil)
theorem wsL_law_in : ∀ w ∈ wsL_law, w ∈ lw_tbl := fun w h => (wsL_law_g w h).1
theorem inlX0 : ∀ w ∈ wsX00, w ∈ wsL_law := fun _ h => List.mem_append_left _ (List.mem_append_left _ (List.mem_append_left _ (List.mem_append_left _ (List.mem_append_left _ (List.mem_append_left _ (List.mem_append_right _ h))))))
theorem inlX1 : ∀ w ∈ wsX10, w ∈ wsL_law := fun _ h => List.mem_append_left _ (List.mem_append_left _ (List.mem_append_left _ (List.mem_append_right _ h)))
theorem inlX2 : ∀ w ∈ wsX20, w ∈ wsL_law := fun _ h => List.mem_append_left _ (List.mem_append_left _ (List.mem_append_left _ (List.mem_append_left _ (List.mem_append_left _ (List.mem_append_left _ (List.mem_append_left _ (List.mem_append_left _ (List.mem_append_left _ (List.mem_append_left _ (List.mem_append_left _ (List.mem_append_right _ h)))))))))))
theorem inlX3 : ∀ w ∈ wsX30, w ∈ wsL_law := fun _ h => List.mem_append_left _ (List.mem_append_left _ (List.mem_append_left _ (List.mem_append_left _ (List.mem_append_left _ (List.mem_append_right _ h)))))
theorem inlX4 : ∀ w ∈ wsX40, w ∈ wsL_law := fun _ h => List.mem_append_left _ (List.mem_append_right _ h)
theorem inlX5 : ∀ w ∈ wsX50, w ∈ wsL_law := fun _ h => List.mem_append_left _ (List.mem_append_left _ (List.mem_append_left _ (List.mem_append_left _ (List.mem_append_left _ (List.mem_append_left _ (List.mem_append_left _ (List.mem_append_left _ (List.mem_append_right _ h))))))))
theorem inlX6 : ∀ w ∈ wsX60, w ∈ wsL_law := fun _ h => List.mem_append_left _ (List.mem_append_left _ (List.mem_append_left _ (List.mem_append_left _ (List.mem_append_left _ (List.mem_append_left _ (List.mem_append_left _ (List.mem_append_left _ (List.mem_append_left _ (List.mem_append_right _ h)))))))))
theorem inlX7 : ∀ w ∈ wsX70, w ∈ wsL_law := fun _ h => List.mem_append_left _ (List.mem_append_left _ (List.mem_append_right _ h))
theorem inlX8 : ∀ w ∈ wsX80, w ∈ wsL_law := fun _ h => List.mem_append_left _ (List.mem_append_left _ (List.mem_append_left _ (List.mem_append_left _ (List.mem_append_left _ (List.mem_append_left _ (List.mem_append_left _ (List.mem_append_left _ (List.mem_append_left _ (List.mem_append_left _ (List.mem_append_right _ h))))))))))
theorem inlX9 : ∀ w ∈ wsX90, w ∈ wsL_law := fun _ h => List.mem_append_left _ (List.mem_append_left _ (List.mem_append_left _ (List.mem_append_left _ (List.mem_append_right _ h))))
theorem inlX10 : ∀ w ∈ wsX100, w ∈ wsL_law := fun _ h => List.mem_append_left _ (List.mem_append_left _ (List.mem_append_left _ (List.mem_append_left _ (List.mem_append_left _ (List.mem_append_left _ (List.mem_append_left _ (List.mem_append_right _ h)))))))
theorem inlX11 : ∀ w ∈ wsX110, w ∈ wsL_law := fun _ h => List.mem_append_left _ (List.mem_append_left _ (List.mem_append_left _ (List.mem_append_left _ (List.mem_append_left _ (List.mem_append_left _ (List.mem_append_left _ (List.mem_append_left _ (List.mem_append_left _ (List.mem_append_left _ (List.mem_append_left _ (List.mem_append_left _ (List.mem_append_left _ (List.mem_append_right _ h)))))))))))))
theorem inlX12 : ∀ w ∈ wsX120, w ∈ wsL_law := fun _ h => List.mem_append_left _ (List.mem_append_left _ (List.mem_append_left _ (List.mem_append_left _ (List.mem_append_left _ (List.mem_append_left _ (List.mem_append_left _ (List.mem_append_left _ (List.mem_append_left _ (List.mem_append_left _ (List.mem_append_left _ (List.mem_append_left _ (List.mem_append_right _ h))))))))))))
theorem inl_wsL_law_r1 : ∀ w ∈ wsL_law_r1, w ∈ wsL_law := fun _ h => List.mem_append_left _ (List.mem_append_left _ (List.mem_append_left _ (List.mem_append_left _ (List.mem_append_left _ (List.mem_append_left _ (List.mem_append_left _ (List.mem_append_left _ (List.mem_append_left _ (List.mem_append_left _ (List.mem_append_left _ (List.mem_append_left _ (List.mem_append_left _ (List.mem_append_left _ (List.mem_append_left _ h))))))))))))))
theorem inl_wsL_law_r2 : ∀ w ∈ wsL_law_r2, w ∈ wsL_law := fun _ h => List.mem_append_left _ (List.mem_append_left _ (List.mem_append_left _ (List.mem_append_left _ (List.mem_append_left _ (List.mem_append_left _ (List.mem_append_left _ (List.mem_append_left _ (List.mem_append_left _ (List.mem_append_left _ (List.mem_append_left _ (List.mem_append_left _ (List.mem_append_left _ (List.mem_append_left _ (List.mem_append_right _ (List.mem_append_left _ h)))))))))))))))
theorem inl_wsL_law_r3 : ∀ w ∈ wsL_law_r3, w ∈ wsL_law := fun _ h => List.mem_append_left _ (List.mem_append_left _ (List.mem_append_left _ (List.mem_append_left _ (List.mem_append_left _ (List.mem_append_left _ (List.mem_append_left _ (List.mem_append_left _ (List.mem_append_left _ (List.mem_append_left _ (List.mem_append_left _ (List.mem_append_left _ (List.mem_append_left _ (List.mem_append_left _ (List.mem_append_right _ (List.mem_append_right _ (List.mem_append_left _ h))))))))))))))))
theorem inl_wsL_law_r4 : ∀ w ∈ wsL_law_r4, w ∈ wsL_law := fun _ h => List.mem_append_left _ (List.mem_append_left _ (List.mem_append_left _ (List.mem_append_left _ (List.mem_append_left _ (List.mem_append_left _ (List.mem_append_left _ (List.mem_append_left _ (List.mem_append_left _ (List.mem_append_left _ (List.mem_append_left _ (List.mem_append_left _ (List.mem_append_left _ (List.mem_append_left _ (List.mem_append_right _ (List.mem_append_right _ (List.mem_append_right _ (List.mem_append_left _ h)))))))))))))))))
theorem inl_wsL_law_r5 : ∀ w ∈ wsL_law_r5, w ∈ wsL_law := fun _ h => List.mem_append_left _ (List.mem_append_left _ (List.mem_append_left _ (List.mem_append_left _ (List.mem_append_left _ (List.mem_append_left _ (List.mem_append_left _ (List.mem_append_left _ (List.mem_append_left _ (List.mem_append_left _ (List.mem_append_left _ (List.mem_append_left _ (List.mem_append_left _ (List.mem_append_left _ (List.mem_append_right _ (List.mem_append_right _ (List.mem_append_right _ (List.mem_append_right _ (List.mem_append_left _ h))))))))))))))))))
theorem inl_wsL_law_r6 : ∀ w ∈ wsL_law_r6, w ∈ wsL_law := fun _ h => List.mem_append_left _ (List.mem_append_left _ (List.mem_append_left _ (List.mem_append_left _ (List.mem_append_left _ (List.mem_append_left _ (List.mem_append_left _ (List.mem_append_left _ (List.mem_append_left _ (List.mem_append_left _ (List.mem_append_left _ (List.mem_append_left _ (List.mem_append_left _ (List.mem_append_left _ (List.mem_append_right _ (List.mem_append_right _ (List.mem_append_right _ (List.mem_append_right _ (List.mem_append_right _ (List.mem_append_left _ h)))))))))))))))))))
theorem inl_wsL_law_r7 : ∀ w ∈ wsL_law_r7, w ∈ wsL_law := fun _ h => List.mem_append_left _ (List.mem_append_left _ (List.mem_append_left _ (List.mem_append_left _ (List.mem_append_left _ (List.mem_append_left _ (List.mem_append_left _ (List.mem_append_left _ (List.mem_append_left _ (List.mem_append_left _ (List.mem_append_left _ (List.mem_append_left _ (List.mem_append_left _ (List.mem_append_left _ (List.mem_append_right _ (List.mem_append_right _ (List.mem_append_right _ (List.mem_append_right _ (List.mem_append_right _ (List.mem_append_right _ (List.mem_append_left _ h))))))))))))))))))))
theorem inl_wsL_law_r8 : ∀ w ∈ wsL_law_r8, w ∈ wsL_law := fun _ h => List.mem_append_left _ (List.mem_append_left _ (List.mem_append_left _ (List.mem_append_left _ (List.mem_append_left _ (List.mem_append_left _ (List.mem_append_left _ (List.mem_append_left _ (List.mem_append_left _ (List.mem_append_left _ (List.mem_append_left _ (List.mem_append_left _ (List.mem_append_left _ (List.mem_append_left _ (List.mem_append_right _ (List.mem_append_right _ (List.mem_append_right _ (List.mem_append_right _ (List.mem_append_right _ (List.mem_append_right _ (List.mem_append_right _ (List.mem_append_left _ h)))))))))))))))))))))
theorem inl_wsL_law_r9 : ∀ w ∈ wsL_law_r9, w ∈ wsL_law := fun _ h => List.mem_append_left _ (List.mem_append_left _ (List.mem_append_left _ (List.mem_append_left _ (List.mem_append_left _ (List.mem_append_left _ (List.mem_append_left _ (List.mem_append_left _ (List.mem_append_left _ (List.mem_append_left _ (List.mem_append_left _ (List.mem_append_left _ (List.mem_append_left _ (List.mem_append_left _ (List.mem_append_right _ (List.mem_append_right _ (List.mem_append_right _ (List.mem_append_right _ (List.mem_append_right _ (List.mem_append_right _ (List.mem_append_right _ (List.mem_append_right _ (List.mem_append_left _ h))))))))))))))))))))))
theorem inl_wsL_law_r10 : ∀ w ∈ wsL_law_r10, w ∈ wsL_law := fun _ h => List.mem_append_left _ (List.mem_append_left _ (List.mem_append_left _ (List.mem_append_left _ (List.mem_append_left _ (List.mem_append_left _ (List.mem_append_left _ (List.mem_append_left _ (List.mem_append_left _ (List.mem_append_left _ (List.mem_append_left _ (List.mem_append_left _ (List.mem_append_left _ (List.mem_append_left _ (List.mem_append_right _ (List.mem_append_right _ (List.mem_append_right _ (List.mem_append_right _ (List.mem_append_right _ (List.mem_append_right _ (List.mem_append_right _ (List.mem_append_right _ (List.mem_append_right _ (List.mem_append_left _ h)))))))))))))))))))))))
theorem inl_wsL_law_r11 : ∀ w ∈ wsL_law_r11, w ∈ wsL_law := fun _ h => List.mem_append_left _ (List.mem_append_left _ (List.mem_append_left _ (List.mem_append_left _ (List.mem_append_left _ (List.mem_append_left _ (List.mem_append_left _ (List.mem_append_left _ (List.mem_append_left _ (List.mem_append_left _ (List.mem_append_left _ (List.mem_append_left _ (List.mem_append_left _ (List.mem_append_left _ (List.mem_append_right _ (List.mem_append_right _ (List.mem_append_right _ (List.mem_append_right _ (List.mem_append_right _ (List.mem_append_right _ (List.mem_append_right _ (List.mem_append_right _ (List.mem_append_right _ (List.mem_append_right _ (List.mem_append_left _ h))))))))))))))))))))))))
theorem inl_wsL_law_r12 : ∀ w ∈ wsL_law_r12, w ∈ wsL_law := fun _ h => List.mem_append_left _ (List.mem_append_left _ (List.mem_append_left _ (List.mem_append_left _ (List.mem_append_left _ (List.mem_append_left _ (List.mem_append_left _ (List.mem_append_left _ (List.mem_append_left _ (List.mem_append_left _ (List.mem_append_left _ (List.mem_append_left _ (List.mem_append_left _ (List.mem_append_left _ (List.mem_append_right _ (List.mem_append_right _ (List.mem_append_right _ (List.mem_append_right _ (List.mem_append_right _ (List.mem_append_right _ (List.mem_append_right _ (List.mem_append_right _ (List.mem_append_right _ (List.mem_append_right _ (List.mem_append_right _ (List.mem_append_left _ h)))))))))))))))))))))))))
theorem inl_wsL_law_r13 : ∀ w ∈ wsL_law_r13, w ∈ wsL_law := fun _ h => List.mem_append_left _ (List.mem_append_left _ (List.mem_append_left _ (List.mem_append_left _ (List.mem_append_left _ (List.mem_append_left _ (List.mem_append_left _ (List.mem_append_left _ (List.mem_append_left _ (List.mem_append_left _ (List.mem_append_left _ (List.mem_append_left _ (List.mem_append_left _ (List.mem_append_left _ (List.mem_append_right _ (List.mem_append_right _ (List.mem_append_right _ (List.mem_append_right _ (List.mem_append_right _ (List.mem_append_right _ (List.mem_append_right _ (List.mem_append_right _ (List.mem_append_right _ (List.mem_append_right _ (List.mem_append_right _ (List.mem_append_right _ (List.mem_append_left _ h))))))))))))))))))))))))))
theorem inl_wsL_law_r14 : ∀ w ∈ wsL_law_r14, w ∈ wsL_law := fun _ h => List.mem_append_left _ (List.mem_append_left _ (List.mem_append_left _ (List.mem_append_left _ (List.mem_append_left _ (List.mem_append_left _ (List.mem_append_left _ (List.mem_append_left _ (List.mem_append_left _ (List.mem_append_left _ (List.mem_append_left _ (List.mem_append_left _ (List.mem_append_left _ (List.mem_append_left _ (List.mem_append_right _ (List.mem_append_right _ (List.mem_append_right _ (List.mem_append_right _ (List.mem_append_right _ (List.mem_append_right _ (List.mem_append_right _ (List.mem_append_right _ (List.mem_append_right _ (List.mem_append_right _ (List.mem_append_right _ (List.mem_append_right _ (List.mem_append_right _ (List.mem_append_left _ h)))))))))))))))))))))))))))
theorem inl_wsL_law_r15 : ∀ w ∈ wsL_law_r15, w ∈ wsL_law := fun _ h => List.mem_append_left _ (List.mem_append_left _ (List.mem_append_left _ (List.mem_append_left _ (List.mem_append_left _ (List.mem_append_left _ (List.mem_append_left _ (List.mem_append_left _ (List.mem_append_left _ (List.mem_append_left _ (List.mem_append_left _ (List.mem_append_left _ (List.mem_append_left _ (List.mem_append_left _ (List.mem_append_right _ (List.mem_append_right _ (List.mem_append_right _ (List.mem_append_right _ (List.mem_append_right _ (List.mem_append_right _ (List.mem_append_right _ (List.mem_append_right _ (List.mem_append_right _ (List.mem_append_right _ (List.mem_append_right _ (List.mem_append_right _ (List.mem_append_right _ (List.mem_append_right _ (List.mem_append_left _ h))))))))))))))))))))))))))))
theorem inl_wsL_law_r16 : ∀ w ∈ wsL_law_r16, w ∈ wsL_law := fun _ h => List.mem_append_left _ (List.mem_append_left _ (List.mem_append_left _ (List.mem_append_left _ (List.mem_append_left _ (List.mem_append_left _ (List.mem_append_left _ (List.mem_append_left _ (List.mem_append_left _ (List.mem_append_left _ (List.mem_append_left _ (List.mem_append_left _ (List.mem_append_left _ (List.mem_append_left _ (List.mem_append_right _ (List.mem_append_right _ (List.mem_append_right _ (List.mem_append_right _ (List.mem_append_right _ (List.mem_append_right _ (List.mem_append_right _ (List.mem_append_right _ (List.mem_append_right _ (List.mem_append_right _ (List.mem_append_right _ (List.mem_append_right _ (List.mem_append_right _ (List.mem_append_right _ (List.mem_append_right _ (List.mem_append_left _ h)))))))))))))))))))))))))))))
theorem inl_wsL_law_r17 : ∀ w ∈ wsL_law_r17, w ∈ wsL_law := fun _ h => List.mem_append_left _ (List.mem_append_left _ (List.mem_append_left _ (List.mem_append_left _ (List.mem_append_left _ (List.mem_append_left _ (List.mem_append_left _ (List.mem_append_left _ (List.mem_append_left _ (List.mem_append_left _ (List.mem_append_left _ (List.mem_append_left _ (List.mem_append_left _ (List.mem_append_left _ (List.mem_append_right _ (List.mem_append_right _ (List.mem_append_right _ (List.mem_append_right _ (List.mem_append_right _ (List.mem_append_right _ (List.mem_append_right _ (List.mem_append_right _ (List.mem_append_right _ (List.mem_append_right _ (List.mem_append_right _ (List.mem_append_right _ (List.mem_append_right _ (List.mem_append_right _ (List.mem_append_right _ (List.mem_append_right _ (List.mem_append_left _ h))))))))))))))))))))))))))))))
theorem inl_wsL_law_r18 : ∀ w ∈ wsL_law_r18, w ∈ wsL_law := fun _ h => List.mem_append_left _ (List.mem_append_left _ (List.mem_append_left _ (List.mem_append_left _ (List.mem_append_left _ (List.mem_append_left _ (List.mem_append_left _ (List.mem_append_left _ (List.mem_append_left _ (List.mem_append_left _ (List.mem_append_left _ (List.mem_append_left _ (List.mem_append_left _ (List.mem_append_left _ (List.mem_append_right _ (List.mem_append_right _ (List.mem_append_right _ (List.mem_append_right _ (List.mem_append_right _ (List.mem_append_right _ (List.mem_append_right _ (List.mem_append_right _ (List.mem_append_right _ (List.mem_append_right _ (List.mem_append_right _ (List.mem_append_right _ (List.mem_append_right _ (List.mem_append_right _ (List.mem_append_right _ (List.mem_append_right _ (List.mem_append_right _ (List.mem_append_left _ h)))))))))))))))))))))))))))))))
theorem inl_wsL_law_r19 : ∀ w ∈ wsL_law_r19, w ∈ wsL_law := fun _ h => List.mem_append_left _ (List.mem_append_left _ (List.mem_append_left _ (List.mem_append_left _ (List.mem_append_left _ (List.mem_append_left _ (List.mem_append_left _ (List.mem_append_left _ (List.mem_append_left _ (List.mem_append_left _ (List.mem_append_left _ (List.mem_append_left _ (List.mem_append_left _ (List.mem_append_left _ (List.mem_append_right _ (List.mem_append_right _ (List.mem_append_right _ (List.mem_append_right _ (List.mem_append_right _ (List.mem_append_right _ (List.mem_append_right _ (List.mem_append_right _ (List.mem_append_right _ (List.mem_append_right _ (List.mem_append_right _ (List.mem_append_right _ (List.mem_append_right _ (List.mem_append_right _ (List.mem_append_right _ (List.mem_append_right _ (List.mem_append_right _ (List.mem_append_right _ (List.mem_append_left _ h))))))))))))))))))))))))))))))))
theorem inl_wsL_law_r20 : ∀ w ∈ wsL_law_r20, w ∈ wsL_law := fun _ h => List.mem_append_left _ (List.mem_append_left _ (List.mem_append_left _ (List.mem_append_left _ (List.mem_append_left _ (List.mem_append_left _ (List.mem_append_left _ (List.mem_append_left _ (List.mem_append_left _ (List.mem_append_left _ (List.mem_append_left _ (List.mem_append_left _ (List.mem_append_left _ (List.mem_append_left _ (List.mem_append_right _ (List.mem_append_right _ (List.mem_append_right _ (List.mem_append_right _ (List.mem_append_right _ (List.mem_append_right _ (List.mem_append_right _ (List.mem_append_right _ (List.mem_append_right _ (List.mem_append_right _ (List.mem_append_right _ (List.mem_append_right _ (List.mem_append_right _ (List.mem_append_right _ (List.mem_append_right _ (List.mem_append_right _ (List.mem_append_right _ (List.mem_append_right _ (List.mem_append_right _ (List.mem_append_left _ h)))))))))))))))))))))))))))))))))
theorem inl_wsL_law_r21 : ∀ w ∈ wsL_law_r21, w ∈ wsL_law := fun _ h => List.mem_append_left _ (List.mem_append_left _ (List.mem_append_left _ (List.mem_append_left _ (List.mem_append_left _ (List.mem_append_left _ (List.mem_append_left _ (List.mem_append_left _ (List.mem_append_left _ (List.mem_append_left _ (List.mem_append_left _ (List.mem_append_left _ (List.mem_append_left _ (List.mem_append_left _ (List.mem_append_right _ (List.mem_append_right _ (List.mem_append_right _ (List.mem_append_right _ (List.mem_append_right _ (List.mem_append_right _ (List.mem_append_right _ (List.mem_append_right _ (List.mem_append_right _ (List.mem_append_right _ (List.mem_append_right _ (List.mem_append_right _ (List.mem_append_right _ (List.mem_append_right _ (List.mem_append_right _ (List.mem_append_right _ (List.mem_append_right _ (List.mem_append_right _ (List.mem_append_right _ (List.mem_append_right _ (List.mem_append_left _ h))))))))))))))))))))))))))))))))))
theorem inl_wsL_law_r22 : ∀ w ∈ wsL_law_r22, w ∈ wsL_law := fun _ h => List.mem_append_left _ (List.mem_append_left _ (List.mem_append_left _ (List.mem_append_left _ (List.mem_append_left _ (List.mem_append_left _ (List.mem_append_left _ (List.mem_append_left _ (List.mem_append_left _ (List.mem_append_left _ (List.mem_append_left _ (List.mem_append_left _ (List.mem_append_left _ (List.mem_append_left _ (List.mem_append_right _ (List.mem_append_right _ (List.mem_append_right _ (List.mem_append_right _ (List.mem_append_right _ (List.mem_append_right _ (List.mem_append_right _ (List.mem_append_right _ (List.mem_append_right _ (List.mem_append_right _ (List.mem_append_right _ (List.mem_append_right _ (List.mem_append_right _ (List.mem_append_right _ (List.mem_append_right _ (List.mem_append_right _ (List.mem_append_right _ (List.mem_append_right _ (List.mem_append_right _ (List.mem_append_right _ (List.mem_append_right _ (List.mem_append_left _ h)))))))))))))))))))))))))))))))))))
theorem inl_wsL_law_r23 : ∀ w ∈ wsL_law_r23, w ∈ wsL_law := fun _ h => List.mem_append_left _ (List.mem_append_left _ (List.mem_append_left _ (List.mem_append_left _ (List.mem_append_left _ (List.mem_append_left _ (List.mem_append_left _ (List.mem_append_left _ (List.mem_append_left _ (List.mem_append_left _ (List.mem_append_left _ (List.mem_append_left _ (List.mem_append_left _ (List.mem_append_left _ (List.mem_append_right _ (List.mem_append_right _ (List.mem_append_right _ (List.mem_append_right _ (List.mem_append_right _ (List.mem_append_right _ (List.mem_append_right _ (List.mem_append_right _ (List.mem_append_right _ (List.mem_append_right _ (List.mem_append_right _ (List.mem_append_right _ (List.mem_append_right _ (List.mem_append_right _ (List.mem_append_right _ (List.mem_append_right _ (List.mem_append_right _ (List.mem_append_right _ (List.mem_append_right _ (List.mem_append_right _ (List.mem_append_right _ (List.mem_append_right _ (List.mem_append_left _ h))))))))))))))))))))))))))))))))))))
theorem inl_wsL_law_r24 : ∀ w ∈ wsL_law_r24, w ∈ wsL_law := fun _ h => List.mem_append_left _ (List.mem_append_left _ (List.mem_append_left _ (List.mem_append_left _ (List.mem_append_left _ (List.mem_append_left _ (List.mem_append_left _ (List.mem_append_left _ (List.mem_append_left _ (List.mem_append_left _ (List.mem_append_left _ (List.mem_append_left _ (List.mem_append_left _ (List.mem_append_left _ (List.mem_append_right _ (List.mem_append_right _ (List.mem_append_right _ (List.mem_append_right _ (List.mem_append_right _ (List.mem_append_right _ (List.mem_append_right _ (List.mem_append_right _ (List.mem_append_right _ (List.mem_append_right _ (List.mem_append_right _ (List.mem_append_right _ (List.mem_append_right _ (List.mem_append_right _ (List.mem_append_right _ (List.mem_append_right _ (List.mem_append_right _ (List.mem_append_right _ (List.mem_append_right _ (List.mem_append_right _ (List.mem_append_right _ (List.mem_append_right _ (List.mem_append_right _ (List.mem_append_left _ h)))))))))))))))))))))))))))))))))))))
theorem inl_wsL_law_r25 : ∀ w ∈ wsL_law_r25, w ∈ wsL_law := fun _ h => List.mem_append_left _ (List.mem_append_left _ (List.mem_append_left _ (List.mem_append_left _ (List.mem_append_left _ (List.mem_append_left _ (List.mem_append_left _ (List.mem_append_left _ (List.mem_append_left _ (List.mem_append_left _ (List.mem_append_left _ (List.mem_append_left _ (List.mem_append_left _ (List.mem_append_left _ (List.mem_append_right _ (List.mem_append_right _ (List.mem_append_right _ (List.mem_append_right _ (List.mem_append_right _ (List.mem_append_right _ (List.mem_append_right _ (List.mem_append_right _ (List.mem_append_right _ (List.mem_append_right _ (List.mem_append_right _ (List.mem_append_right _ (List.mem_append_right _ (List.mem_append_right _ (List.mem_append_right _ (List.mem_append_right _ (List.mem_append_right _ (List.mem_append_right _ (List.mem_append_right _ (List.mem_append_right _ (List.mem_append_right _ (List.mem_append_right _ (List.mem_append_right _ (List.mem_append_right _ (List.mem_append_left _ h))))))))))))))))))))))))))))))))))))))
theorem inl_wsL_law_r26 : ∀ w ∈ wsL_law_r26, w ∈ wsL_law := fun _ h => List.mem_append_left _ (List.mem_append_left _ (List.mem_append_left _ (List.mem_append_left _ (List.mem_append_left _ (List.mem_append_left _ (List.mem_append_left _ (List.mem_append_left _ (List.mem_append_left _ (List.mem_append_left _ (List.mem_append_left _ (List.mem_append_left _ (List.mem_append_left _ (List.mem_append_left _ (List.mem_append_right _ (List.mem_append_right _ (List.mem_append_right _ (List.mem_append_right _ (List.mem_append_right _ (List.mem_append_right _ (List.mem_append_right _ (List.mem_append_right _ (List.mem_append_right _ (List.mem_append_right _ (List.mem_append_right _ (List.mem_append_right _ (List.mem_append_right _ (List.mem_append_right _ (List.mem_append_right _ (List.mem_append_right _ (List.mem_append_right _ (List.mem_append_right _ (List.mem_append_right _ (List.mem_append_right _ (List.mem_append_right _ (List.mem_append_right _ (List.mem_append_right _ (List.mem_append_right _ (List.mem_append_right _ (List.mem_append_left _ h)))))))))))))))))))))))))))))))))))))))
theorem inl_wsL_law_r27 : ∀ w ∈ wsL_law_r27, w ∈ wsL_law := fun _ h => List.mem_append_left _ (List.mem_append_left _ (List.mem_append_left _ (List.mem_append_left _ (List.mem_append_left _ (List.mem_append_left _ (List.mem_append_left _ (List.mem_append_left _ (List.mem_append_left _ (List.mem_append_left _ (List.mem_append_left _ (List.mem_append_left _ (List.mem_append_left _ (List.mem_append_left _ (List.mem_append_right _ (List.mem_append_right _ (List.mem_append_right _ (List.mem_append_right _ (List.mem_append_right _ (List.mem_append_right _ (List.mem_append_right _ (List.mem_append_right _ (List.mem_append_right _ (List.mem_append_right _ (List.mem_append_right _ (List.mem_append_right _ (List.mem_append_right _ (List.mem_append_right _ (List.mem_append_right _ (List.mem_append_right _ (List.mem_append_right _ (List.mem_append_right _ (List.mem_append_right _ (List.mem_append_right _ (List.mem_append_right _ (List.mem_append_right _ (List.mem_append_right _ (List.mem_append_right _ (List.mem_append_right _ (List.mem_append_right _ (List.mem_append_left _ h))))))))))))))))))))))))))))))))))))))))
theorem inl_wsL_law_r28 : ∀ w ∈ wsL_law_r28, w ∈ wsL_law := fun _ h => List.mem_append_left _ (List.mem_append_left _ (List.mem_append_left _ (List.mem_append_left _ (List.mem_append_left _ (List.mem_append_left _ (List.mem_append_left _ (List.mem_append_left _ (List.mem_append_left _ (List.mem_append_left _ (List.mem_append_left _ (List.mem_append_left _ (List.mem_append_left _ (List.mem_append_left _ (List.mem_append_right _ (List.mem_append_right _ (List.mem_append_right _ (List.mem_append_right _ (List.mem_append_right _ (List.mem_append_right _ (List.mem_append_right _ (List.mem_append_right _ (List.mem_append_right _ (List.mem_append_right _ (List.mem_append_right _ (List.mem_append_right _ (List.mem_append_right _ (List.mem_append_right _ (List.mem_append_right _ (List.mem_append_right _ (List.mem_append_right _ (List.mem_append_right _ (List.mem_append_right _ (List.mem_append_right _ (List.mem_append_right _ (List.mem_append_right _ (List.mem_append_right _ (List.mem_append_right _ (List.mem_append_right _ (List.mem_append_right _ (List.mem_append_right _ (List.mem_append_left _ h)))))))))))))))))))))))))))))))))))))))))
theorem inl_wsL_law_r29 : ∀ w ∈ wsL_law_r29, w ∈ wsL_law := fun _ h => List.mem_append_left _ (List.mem_append_left _ (List.mem_append_left _ (List.mem_append_left _ (List.mem_append_left _ (List.mem_append_left _ (List.mem_append_left _ (List.mem_append_left _ (List.mem_append_left _ (List.mem_append_left _ (List.mem_append_left _ (List.mem_append_left _ (List.mem_append_left _ (List.mem_append_left _ (List.mem_append_right _ (List.mem_append_right _ (List.mem_append_right _ (List.mem_append_right _ (List.mem_append_right _ (List.mem_append_right _ (List.mem_append_right _ (List.mem_append_right _ (List.mem_append_right _ (List.mem_append_right _ (List.mem_append_right _ (List.mem_append_right _ (List.mem_append_right _ (List.mem_append_right _ (List.mem_append_right _ (List.mem_append_right _ (List.mem_append_right _ (List.mem_append_right _ (List.mem_append_right _ (List.mem_append_right _ (List.mem_append_right _ (List.mem_append_right _ (List.mem_append_right _ (List.mem_append_right _ (List.mem_append_right _ (List.mem_append_right _ (List.mem_append_right _ (List.mem_append_right _ (List.mem_append_left _ h))))))))))))))))))))))))))))))))))))))))))
theorem inl_wsL_law_r30 : ∀ w ∈ wsL_law_r30, w ∈ wsL_law := fun _ h => List.mem_append_left _ (List.mem_append_left _ (List.mem_append_left _ (List.mem_append_left _ (List.mem_append_left _ (List.mem_append_left _ (List.mem_append_left _ (List.mem_append_left _ (List.mem_append_left _ (List.mem_append_left _ (List.mem_append_left _ (List.mem_append_left _ (List.mem_append_left _ (List.mem_append_left _ (List.mem_append_right _ (List.mem_append_right _ (List.mem_append_right _ (List.mem_append_right _ (List.mem_append_right _ (List.mem_append_right _ (List.mem_append_right _ (List.mem_append_right _ (List.mem_append_right _ (List.mem_append_right _ (List.mem_append_right _ (List.mem_append_right _ (List.mem_append_right _ (List.mem_append_right _ (List.mem_append_right _ (List.mem_append_right _ (List.mem_append_right _ (List.mem_append_right _ (List.mem_append_right _ (List.mem_append_right _ (List.mem_append_right _ (List.mem_append_right _ (List.mem_append_right _ (List.mem_append_right _ (List.mem_append_right _ (List.mem_append_right _ (List.mem_append_right _ (List.mem_append_right _ (List.mem_append_right _ (List.mem_append_left _ h)))))))))))))))))))))))))))))))))))))))))))
theorem inl_wsL_law_r31 : ∀ w ∈ wsL_law_r31, w ∈ wsL_law := fun _ h => List.mem_append_left _ (List.mem_append_left _ (List.mem_append_left _ (List.mem_append_left _ (List.mem_append_left _ (List.mem_append_left _ (List.mem_append_left _ (List.mem_append_left _ (List.mem_append_left _ (List.mem_append_left _ (List.mem_append_left _ (List.mem_append_left _ (List.mem_append_left _ (List.mem_append_left _ (List.mem_append_right _ (List.mem_append_right _ (List.mem_append_right _ (List.mem_append_right _ (List.mem_append_right _ (List.mem_append_right _ (List.mem_append_right _ (List.mem_append_right _ (List.mem_append_right _ (List.mem_append_right _ (List.mem_append_right _ (List.mem_append_right _ (List.mem_append_right _ (List.mem_append_right _ (List.mem_append_right _ (List.mem_append_right _ (List.mem_append_right _ (List.mem_append_right _ (List.mem_append_right _ (List.mem_append_right _ (List.mem_append_right _ (List.mem_append_right _ (List.mem_append_right _ (List.mem_append_right _ (List.mem_append_right _ (List.mem_append_right _ (List.mem_append_right _ (List.mem_append_right _ (List.mem_append_right _ (List.mem_append_right _ (List.mem_append_left _ h))))))))))))))))))))))))))))))))))))))))))))
theorem inl_wsL_law_r32 : ∀ w ∈ wsL_law_r32, w ∈ wsL_law := fun _ h => List.mem_append_left _ (List.mem_append_left _ (List.mem_append_left _ (List.mem_append_left _ (List.mem_append_left _ (List.mem_append_left _ (List.mem_append_left _ (List.mem_append_left _ (List.mem_append_left _ (List.mem_append_left _ (List.mem_append_left _ (List.mem_append_left _ (List.mem_append_left _ (List.mem_append_left _ (List.mem_append_right _ (List.mem_append_right _ (List.mem_append_right _ (List.mem_append_right _ (List.mem_append_right _ (List.mem_append_right _ (List.mem_append_right _ (List.mem_append_right _ (List.mem_append_right _ (List.mem_append_right _ (List.mem_append_right _ (List.mem_append_right _ (List.mem_append_right _ (List.mem_append_right _ (List.mem_append_right _ (List.mem_append_right _ (List.mem_append_right _ (List.mem_append_right _ (List.mem_append_right _ (List.mem_append_right _ (List.mem_append_right _ (List.mem_append_right _ (List.mem_append_right _ (List.mem_append_right _ (List.mem_append_right _ (List.mem_append_right _ (List.mem_append_right _ (List.mem_append_right _ (List.mem_append_right _ (List.mem_append_right _ (List.mem_append_right _ (List.mem_append_left _ h)))))))))))))))))))))))))))))))))))))))))))))
theorem inl_wsL_law_r33 : ∀ w ∈ wsL_law_r33, w ∈ wsL_law := fun _ h => List.mem_append_left _ (List.mem_append_left _ (List.mem_append_left _ (List.mem_append_left _ (List.mem_append_left _ (List.mem_append_left _ (List.mem_append_left _ (List.mem_append_left _ (List.mem_append_left _ (List.mem_append_left _ (List.mem_append_left _ (List.mem_append_left _ (List.mem_append_left _ (List.mem_append_left _ (List.mem_append_right _ (List.mem_append_right _ (List.mem_append_right _ (List.mem_append_right _ (List.mem_append_right _ (List.mem_append_right _ (List.mem_append_right _ (List.mem_append_right _ (List.mem_append_right _ (List.mem_append_right _ (List.mem_append_right _ (List.mem_append_right _ (List.mem_append_right _ (List.mem_append_right _ (List.mem_append_right _ (List.mem_append_right _ (List.mem_append_right _ (List.mem_append_right _ (List.mem_append_right _ (List.mem_append_right _ (List.mem_append_right _ (List.mem_append_right _ (List.mem_append_right _ (List.mem_append_right _ (List.mem_append_right _ (List.mem_append_right _ (List.mem_append_right _ (List.mem_append_right _ (List.mem_append_right _ (List.mem_append_right _ (List.mem_append_right _ (List.mem_append_right _ (List.mem_append_left _ h))))))))))))))))))))))))))))))))))))))))))))))
theorem inl_wsL_law_r34 : ∀ w ∈ wsL_law_r34, w ∈ wsL_law := fun _ h => List.mem_append_left _ (List.mem_append_left _ (List.mem_append_left _ (List.mem_append_left _ (List.mem_append_left _ (List.mem_append_left _ (List.mem_append_left _ (List.mem_append_left _ (List.mem_append_left _ (List.mem_append_left _ (List.mem_append_left _ (List.mem_append_left _ (List.mem_append_left _ (List.mem_append_left _ (List.mem_append_right _ (List.mem_append_right _ (List.mem_append_right _ (List.mem_append_right _ (List.mem_append_right _ (List.mem_append_right _ (List.mem_append_right _ (List.mem_append_right _ (List.mem_append_right _ (List.mem_append_right _ (List.mem_append_right _ (List.mem_append_right _ (List.mem_append_right _ (List.mem_append_right _ (List.mem_append_right _ (List.mem_append_right _ (List.mem_append_right _ (List.mem_append_right _ (List.mem_append_right _ (List.mem_append_right _ (List.mem_append_right _ (List.mem_append_right _ (List.mem_append_right _ (List.mem_append_right _ (List.mem_append_right _ (List.mem_append_right _ (List.mem_append_right _ (List.mem_append_right _ (List.mem_append_right _ (List.mem_append_right _ (List.mem_append_right _ (List.mem_append_right _ (List.mem_append_right _ (List.mem_append_left _ h)))))))))))))))))))))))))))))))))))))))))))))))
theorem inl_wsL_law_r35 : ∀ w ∈ wsL_law_r35, w ∈ wsL_law := fun _ h => List.mem_append_left _ (List.mem_append_left _ (List.mem_append_left _ (List.mem_append_left _ (List.mem_append_left _ (List.mem_append_left _ (List.mem_append_left _ (List.mem_append_left _ (List.mem_append_left _ (List.mem_append_left _ (List.mem_append_left _ (List.mem_append_left _ (List.mem_append_left _ (List.mem_append_left _ (List.mem_append_right _ (List.mem_append_right _ (List.mem_append_right _ (List.mem_append_right _ (List.mem_append_right _ (List.mem_append_right _ (List.mem_append_right _ (List.mem_append_right _ (List.mem_append_right _ (List.mem_append_right _ (List.mem_append_right _ (List.mem_append_right _ (List.mem_append_right _ (List.mem_append_right _ (List.mem_append_right _ (List.mem_append_right _ (List.mem_append_right _ (List.mem_append_right _ (List.mem_append_right _ (List.mem_append_right _ (List.mem_append_right _ (List.mem_append_right _ (List.mem_append_right _ (List.mem_append_right _ (List.mem_append_right _ (List.mem_append_right _ (List.mem_append_right _ (List.mem_append_right _ (List.mem_append_right _ (List.mem_append_right _ (List.mem_append_right _ (List.mem_append_right _ (List.mem_append_right _ (List.mem_append_right _ (List.mem_append_left _ h))))))))))))))))))))))))))))))))))))))))))))))))
theorem inl_wsL_law_r36 : ∀ w ∈ wsL_law_r36, w ∈ wsL_law := fun _ h => List.mem_append_left _ (List.mem_append_left _ (List.mem_append_left _ (List.mem_append_left _ (List.mem_append_left _ (List.mem_append_left _ (List.mem_append_left _ (List.mem_append_left _ (List.mem_append_left _ (List.mem_append_left _ (List.mem_append_left _ (List.mem_append_left _ (List.mem_append_left _ (List.mem_append_left _ (List.mem_append_right _ (List.mem_append_right _ (List.mem_append_right _ (List.mem_append_right _ (List.mem_append_right _ (List.mem_append_right _ (List.mem_append_right _ (List.mem_append_right _ (List.mem_append_right _ (List.mem_append_right _ (List.mem_append_right _ (List.mem_append_right _ (List.mem_append_right _ (List.mem_append_right _ (List.mem_append_right _ (List.mem_append_right _ (List.mem_append_right _ (List.mem_append_right _ (List.mem_append_right _ (List.mem_append_right _ (List.mem_append_right _ (List.mem_append_right _ (List.mem_append_right _ (List.mem_append_right _ (List.mem_append_right _ (List.mem_append_right _ (List.mem_append_right _ (List.mem_append_right _ (List.mem_append_right _ (List.mem_append_right _ (List.mem_append_right _ (List.mem_append_right _ (List.mem_append_right _ (List.mem_append_right _ (List.mem_append_right _ (List.mem_append_left _ h)))))))))))))))))))))))))))))))))))))))))))))))))
theorem inl_wsL_law_r37 : ∀ w ∈ wsL_law_r37, w ∈ wsL_law := fun _ h => List.mem_append_left _ (List.mem_append_left _ (List.mem_append_left _ (List.mem_append_left _ (List.mem_append_left _ (List.mem_append_left _ (List.mem_append_left _ (List.mem_append_left _ (List.mem_append_left _ (List.mem_append_left _ (List.mem_append_left _ (List.mem_append_left _ (List.mem_append_left _ (List.mem_append_left _ (List.mem_append_right _ (List.mem_append_right _ (List.mem_append_right _ (List.mem_append_right _ (List.mem_append_right _ (List.mem_append_right _ (List.mem_append_right _ (List.mem_append_right _ (List.mem_append_right _ (List.mem_append_right _ (List.mem_append_right _ (List.mem_append_right _ (List.mem_append_right _ (List.mem_append_right _ (List.mem_append_right _ (List.mem_append_right _ (List.mem_append_right _ (List.mem_append_right _ (List.mem_append_right _ (List.mem_append_right _ (List.mem_append_right _ (List.mem_append_right _ (List.mem_append_right _ (List.mem_append_right _ (List.mem_append_right _ (List.mem_append_right _ (List.mem_append_right _ (List.mem_append_right _ (List.mem_append_right _ (List.mem_append_right _ (List.mem_append_right _ (List.mem_append_right _ (List.mem_append_right _ (List.mem_append_right _ (List.mem_append_right _ (List.mem_append_right _ (List.mem_append_left _ h))))))))))))))))))))))))))))))))))))))))))))))))))
theorem inl_wsL_law_r38 : ∀ w ∈ wsL_law_r38, w ∈ wsL_law := fun _ h => List.mem_append_left _ (List.mem_append_left _ (List.mem_append_left _ (List.mem_append_left _ (List.mem_append_left _ (List.mem_append_left _ (List.mem_append_left _ (List.mem_append_left _ (List.mem_append_left _ (List.mem_append_left _ (List.mem_append_left _ (List.mem_append_left _ (List.mem_append_left _ (List.mem_append_left _ (List.mem_append_right _ (List.mem_append_right _ (List.mem_append_right _ (List.mem_append_right _ (List.mem_append_right _ (List.mem_append_right _ (List.mem_append_right _ (List.mem_append_right _ (List.mem_append_right _ (List.mem_append_right _ (List.mem_append_right _ (List.mem_append_right _ (List.mem_append_right _ (List.mem_append_right _ (List.mem_append_right _ (List.mem_append_right _ (List.mem_append_right _ (List.mem_append_right _ (List.mem_append_right _ (List.mem_append_right _ (List.mem_append_right _ (List.mem_append_right _ (List.mem_append_right _ (List.mem_append_right _ (List.mem_append_right _ (List.mem_append_right _ (List.mem_append_right _ (List.mem_append_right _ (List.mem_append_right _ (List.mem_append_right _ (List.mem_append_right _ (List.mem_append_right _ (List.mem_append_right _ (List.mem_append_right _ (List.mem_append_right _ (List.mem_append_right _ (List.mem_append_right _ (List.mem_append_left _ h)))))))))))))))))))))))))))))))))))))))))))))))))))
theorem inl_wsL_law_r39 : ∀ w ∈ wsL_law_r39, w ∈ wsL_law := fun _ h => List.mem_append_left _ (List.mem_append_left _ (List.mem_append_left _ (List.mem_append_left _ (List.mem_append_left _ (List.mem_append_left _ (List.mem_append_left _ (List.mem_append_left _ (List.mem_append_left _ (List.mem_append_left _ (List.mem_append_left _ (List.mem_append_left _ (List.mem_append_left _ (List.mem_append_left _ (List.mem_append_right _ (List.mem_append_right _ (List.mem_append_right _ (List.mem_append_right _ (List.mem_append_right _ (List.mem_append_right _ (List.mem_append_right _ (List.mem_append_right _ (List.mem_append_right _ (List.mem_append_right _ (List.mem_append_right _ (List.mem_append_right _ (List.mem_append_right _ (List.mem_append_right _ (List.mem_append_right _ (List.mem_append_right _ (List.mem_append_right _ (List.mem_append_right _ (List.mem_append_right _ (List.mem_append_right _ (List.mem_append_right _ (List.mem_append_right _ (List.mem_append_right _ (List.mem_append_right _ (List.mem_append_right _ (List.mem_append_right _ (List.mem_append_right _ (List.mem_append_right _ (List.mem_append_right _ (List.mem_append_right _ (List.mem_append_right _ (List.mem_append_right _ (List.mem_append_right _ (List.mem_append_right _ (List.mem_append_right _ (List.mem_append_right _ (List.mem_append_right _ (List.mem_append_right _ (List.mem_append_left _ h))))))))))))))))))))))))))))))))))))))))))))))))))))
theorem inl_wsL_law_r40 : ∀ w ∈ wsL_law_r40, w ∈ wsL_law := fun _ h => List.mem_append_left _ (List.mem_append_left _ (List.mem_append_left _ (List.mem_append_left _ (List.mem_append_left _ (List.mem_append_left _ (List.mem_append_left _ (List.mem_append_left _ (List.mem_append_left _ (List.mem_append_left _ (List.mem_append_left _ (List.mem_append_left _ (List.mem_append_left _ (List.mem_append_left _ (List.mem_append_right _ (List.mem_append_right _ (List.mem_append_right _ (List.mem_append_right _ (List.mem_append_right _ (List.mem_append_right _ (List.mem_append_right _ (List.mem_append_right _ (List.mem_append_right _ (List.mem_append_right _ (List.mem_append_right _ (List.mem_append_right _ (List.mem_append_right _ (List.mem_append_right _ (List.mem_append_right _ (List.mem_append_right _ (List.mem_append_right _ (List.mem_append_right _ (List.mem_append_right _ (List.mem_append_right _ (List.mem_append_right _ (List.mem_append_right _ (List.mem_append_right _ (List.mem_append_right _ (List.mem_append_right _ (List.mem_append_right _ (List.mem_append_right _ (List.mem_append_right _ (List.mem_append_right _ (List.mem_append_right _ (List.mem_append_right _ (List.mem_append_right _ (List.mem_append_right _ (List.mem_append_right _ (List.mem_append_right _ (List.mem_append_right _ (List.mem_append_right _ (List.mem_append_right _ (List.mem_append_right _ (List.mem_append_left _ h)))))))))))))))))))))))))))))))))))))))))))))))))))))
theorem inl_wsL_law_r41 : ∀ w ∈ wsL_law_r41, w ∈ wsL_law := fun _ h => List.mem_append_left _ (List.mem_append_left _ (List.mem_append_left _ (List.mem_append_left _ (List.mem_append_left _ (List.mem_append_left _ (List.mem_append_left _ (List.mem_append_left _ (List.mem_append_left _ (List.mem_append_left _ (List.mem_append_left _ (List.mem_append_left _ (List.mem_append_left _ (List.mem_append_left _ (List.mem_append_right _ (List.mem_append_right _ (List.mem_append_right _ (List.mem_append_right _ (List.mem_append_right _ (List.mem_append_right _ (List.mem_append_right _ (List.mem_append_right _ (List.mem_append_right _ (List.mem_append_right _ (List.mem_append_right _ (List.mem_append_right _ (List.mem_append_right _ (List.mem_append_right _ (List.mem_append_right _ (List.mem_append_right _ (List.mem_append_right _ (List.mem_append_right _ (List.mem_append_right _ (List.mem_append_right _ (List.mem_append_right _ (List.mem_append_right _ (List.mem_append_right _ (List.mem_append_right _ (List.mem_append_right _ (List.mem_append_right _ (List.mem_append_right _ (List.mem_append_right _ (List.mem_append_right _ (List.mem_append_right _ (List.mem_append_right _ (List.mem_append_right _ (List.mem_append_right _ (List.mem_append_right _ (List.mem_append_right _ (List.mem_append_right _ (List.mem_append_right _ (List.mem_append_right _ (List.mem_append_right _ (List.mem_append_right _ (List.mem_append_left _ h))))))))))))))))))))))))))))))))))))))))))))))))))))))
theorem inl_wsL_law_r42 : ∀ w ∈ wsL_law_r42, w ∈ wsL_law := fun _ h => List.mem_append_left _ (List.mem_append_left _ (List.mem_append_left _ (List.mem_append_left _ (List.mem_append_left _ (List.mem_append_left _ (List.mem_append_left _ (List.mem_append_left _ (List.mem_append_left _ (List.mem_append_left _ (List.mem_append_left _ (List.mem_append_left _ (List.mem_append_left _ (List.mem_append_left _ (List.mem_append_right _ (List.mem_append_right _ (List.mem_append_right _ (List.mem_append_right _ (List.mem_append_right _ (List.mem_append_right _ (List.mem_append_right _ (List.mem_append_right _ (List.mem_append_right _ (List.mem_append_right _ (List.mem_append_right _ (List.mem_append_right _ (List.mem_append_right _ (List.mem_append_right _ (List.mem_append_right _ (List.mem_append_right _ (List.mem_append_right _ (List.mem_append_right _ (List.mem_append_right _ (List.mem_append_right _ (List.mem_append_right _ (List.mem_append_right _ (List.mem_append_right _ (List.mem_append_right _ (List.mem_append_right _ (List.mem_append_right _ (List.mem_append_right _ (List.mem_append_right _ (List.mem_append_right _ (List.mem_append_right _ (List.mem_append_right _ (List.mem_append_right _ (List.mem_append_right _ (List.mem_append_right _ (List.mem_append_right _ (List.mem_append_right _ (List.mem_append_right _ (List.mem_append_right _ (List.mem_append_right _ (List.mem_append_right _ (List.mem_append_right _ (List.mem_append_left _ h)))))))))))))))))))))))))))))))))))))))))))))))))))))))
theorem inl_wsL_law_r43 : ∀ w ∈ wsL_law_r43, w ∈ wsL_law := fun _ h => List.mem_append_left _ (List.mem_append_left _ (List.mem_append_left _ (List.mem_append_left _ (List.mem_append_left _ (List.mem_append_left _ (List.mem_append_left _ (List.mem_append_left _ (List.mem_append_left _ (List.mem_append_left _ (List.mem_append_left _ (List.mem_append_left _ (List.mem_append_left _ (List.mem_append_left _ (List.mem_append_right _ (List.mem_append_right _ (List.mem_append_right _ (List.mem_append_right _ (List.mem_append_right _ (List.mem_append_right _ (List.mem_append_right _ (List.mem_append_right _ (List.mem_append_right _ (List.mem_append_right _ (List.mem_append_right _ (List.mem_append_right _ (List.mem_append_right _ (List.mem_append_right _ (List.mem_append_right _ (List.mem_append_right _ (List.mem_append_right _ (List.mem_append_right _ (List.mem_append_right _ (List.mem_append_right _ (List.mem_append_right _ (List.mem_append_right _ (List.mem_append_right _ (List.mem_append_right _ (List.mem_append_right _ (List.mem_append_right _ (List.mem_append_right _ (List.mem_append_right _ (List.mem_append_right _ (List.mem_append_right _ (List.mem_append_right _ (List.mem_append_right _ (List.mem_append_right _ (List.mem_append_right _ (List.mem_append_right _ (List.mem_append_right _ (List.mem_append_right _ (List.mem_append_right _ (List.mem_append_right _ (List.mem_append_right _ (List.mem_append_right _ (List.mem_append_right _ (List.mem_append_left _ h))))))))))))))))))))))))))))))))))))))))))))))))))))))))
theorem inl_wsL_law_r44 : ∀ w ∈ wsL_law_r44, w ∈ wsL_law := fun _ h => List.mem_append_left _ (List.mem_append_left _ (List.mem_append_left _ (List.mem_append_left _ (List.mem_append_left _ (List.mem_append_left _ (List.mem_append_left _ (List.mem_append_left _ (List.mem_append_left _ (List.mem_append_left _ (List.mem_append_left _ (List.mem_append_left _ (List.mem_append_left _ (List.mem_append_left _ (List.mem_append_right _ (List.mem_append_right _ (List.mem_append_right _ (List.mem_append_right _ (List.mem_append_right _ (List.mem_append_right _ (List.mem_append_right _ (List.mem_append_right _ (List.mem_append_right _ (List.mem_append_right _ (List.mem_append_right _ (List.mem_append_right _ (List.mem_append_right _ (List.mem_append_right _ (List.mem_append_right _ (List.mem_append_right _ (List.mem_append_right _ (List.mem_append_right _ (List.mem_append_right _ (List.mem_append_right _ (List.mem_append_right _ (List.mem_append_right _ (List.mem_append_right _ (List.mem_append_right _ (List.mem_append_right _ (List.mem_append_right _ (List.mem_append_right _ (List.mem_append_right _ (List.mem_append_right _ (List.mem_append_right _ (List.mem_append_right _ (List.mem_append_right _ (List.mem_append_right _ (List.mem_append_right _ (List.mem_append_right _ (List.mem_append_right _ (List.mem_append_right _ (List.mem_append_right _ (List.mem_append_right _ (List.mem_append_right _ (List.mem_append_right _ (List.mem_append_right _ (List.mem_append_right _ (List.mem_append_left _ h)))))))))))))))))))))))))))))))))))))))))))))))))))))))))
theorem inl_wsL_law_r45 : ∀ w ∈ wsL_law_r45, w ∈ wsL_law := fun _ h => List.mem_append_left _ (List.mem_append_left _ (List.mem_append_left _ (List.mem_append_left _ (List.mem_append_left _ (List.mem_append_left _ (List.mem_append_left _ (List.mem_append_left _ (List.mem_append_left _ (List.mem_append_left _ (List.mem_append_left _ (List.mem_append_left _ (List.mem_append_left _ (List.mem_append_left _ (List.mem_append_right _ (List.mem_append_right _ (List.mem_append_right _ (List.mem_append_right _ (List.mem_append_right _ (List.mem_append_right _ (List.mem_append_right _ (List.mem_append_right _ (List.mem_append_right _ (List.mem_append_right _ (List.mem_append_right _ (List.mem_append_right _ (List.mem_append_right _ (List.mem_append_right _ (List.mem_append_right _ (List.mem_append_right _ (List.mem_append_right _ (List.mem_append_right _ (List.mem_append_right _ (List.mem_append_right _ (List.mem_append_right _ (List.mem_append_right _ (List.mem_append_right _ (List.mem_append_right _ (List.mem_append_right _ (List.mem_append_right _ (List.mem_append_right _ (List.mem_append_right _ (List.mem_append_right _ (List.mem_append_right _ (List.mem_append_right _ (List.mem_append_right _ (List.mem_append_right _ (List.mem_append_right _ (List.mem_append_right _ (List.mem_append_right _ (List.mem_append_right _ (List.mem_append_right _ (List.mem_append_right _ (List.mem_append_right _ (List.mem_append_right _ (List.mem_append_right _ (List.mem_append_right _ (List.mem_append_right _ (List.mem_append_left _ h))))))))))))))))))))))))))))))))))))))))))))))))))))))))))
theorem inl_wsL_law_r46 : ∀ w ∈ wsL_law_r46, w ∈ wsL_law := fun _ h => List.mem_append_left _ (List.mem_append_left _ (List.mem_append_left _ (List.mem_append_left _ (List.mem_append_left _ (List.mem_append_left _ (List.mem_append_left _ (List.mem_append_left _ (List.mem_append_left _ (List.mem_append_left _ (List.mem_append_left _ (List.mem_append_left _ (List.mem_append_left _ (List.mem_append_left _ (List.mem_append_right _ (List.mem_append_right _ (List.mem_append_right _ (List.mem_append_right _ (List.mem_append_right _ (List.mem_append_right _ (List.mem_append_right _ (List.mem_append_right _ (List.mem_append_right _ (List.mem_append_right _ (List.mem_append_right _ (List.mem_append_right _ (List.mem_append_right _ (List.mem_append_right _ (List.mem_append_right _ (List.mem_append_right _ (List.mem_append_right _ (List.mem_append_right _ (List.mem_append_right _ (List.mem_append_right _ (List.mem_append_right _ (List.mem_append_right _ (List.mem_append_right _ (List.mem_append_right _ (List.mem_append_right _ (List.mem_append_right _ (List.mem_append_right _ (List.mem_append_right _ (List.mem_append_right _ (List.mem_append_right _ (List.mem_append_right _ (List.mem_append_right _ (List.mem_append_right _ (List.mem_append_right _ (List.mem_append_right _ (List.mem_append_right _ (List.mem_append_right _ (List.mem_append_right _ (List.mem_append_right _ (List.mem_append_right _ (List.mem_append_right _ (List.mem_append_right _ (List.mem_append_right _ (List.mem_append_right _ (List.mem_append_right _ (List.mem_append_left _ h)))))))))))))))))))))))))))))))))))))))))))))))))))))))))))
theorem inl_wsL_law_r47 : ∀ w ∈ wsL_law_r47, w ∈ wsL_law := fun _ h => List.mem_append_left _ (List.mem_append_left _ (List.mem_append_left _ (List.mem_append_left _ (List.mem_append_left _ (List.mem_append_left _ (List.mem_append_left _ (List.mem_append_left _ (List.mem_append_left _ (List.mem_append_left _ (List.mem_append_left _ (List.mem_append_left _ (List.mem_append_left _ (List.mem_append_left _ (List.mem_append_right _ (List.mem_append_right _ (List.mem_append_right _ (List.mem_append_right _ (List.mem_append_right _ (List.mem_append_right _ (List.mem_append_right _ (List.mem_append_right _ (List.mem_append_right _ (List.mem_append_right _ (List.mem_append_right _ (List.mem_append_right _ (List.mem_append_right _ (List.mem_append_right _ (List.mem_append_right _ (List.mem_append_right _ (List.mem_append_right _ (List.mem_append_right _ (List.mem_append_right _ (List.mem_append_right _ (List.mem_append_right _ (List.mem_append_right _ (List.mem_append_right _ (List.mem_append_right _ (List.mem_append_right _ (List.mem_append_right _ (List.mem_append_right _ (List.mem_append_right _ (List.mem_append_right _ (List.mem_append_right _ (List.mem_append_right _ (List.mem_append_right _ (List.mem_append_right _ (List.mem_append_right _ (List.mem_append_right _ (List.mem_append_right _ (List.mem_append_right _ (List.mem_append_right _ (List.mem_append_right _ (List.mem_append_right _ (List.mem_append_right _ (List.mem_append_right _ (List.mem_append_right _ (List.mem_append_right _ (List.mem_append_right _ (List.mem_append_right _ (List.mem_append_left _ h))))))))))))))))))))))))))))))))))))))))))))))))))))))))))))
theorem inl_wsL_law_r48 : ∀ w ∈ wsL_law_r48, w ∈ wsL_law := fun _ h => List.mem_append_left _ (List.mem_append_left _ (List.mem_append_left _ (List.mem_append_left _ (List.mem_append_left _ (List.mem_append_left _ (List.mem_append_left _ (List.mem_append_left _ (List.mem_append_left _ (List.mem_append_left _ (List.mem_append_left _ (List.mem_append_left _ (List.mem_append_left _ (List.mem_append_left _ (List.mem_append_right _ (List.mem_append_right _ (List.mem_append_right _ (List.mem_append_right _ (List.mem_append_right _ (List.mem_append_right _ (List.mem_append_right _ (List.mem_append_right _ (List.mem_append_right _ (List.mem_append_right _ (List.mem_append_right _ (List.mem_append_right _ (List.mem_append_right _ (List.mem_append_right _ (List.mem_append_right _ (List.mem_append_right _ (List.mem_append_right _ (List.mem_append_right _ (List.mem_append_right _ (List.mem_append_right _ (List.mem_append_right _ (List.mem_append_right _ (List.mem_append_right _ (List.mem_append_right _ (List.mem_append_right _ (List.mem_append_right _ (List.mem_append_right _ (List.mem_append_right _ (List.mem_append_right _ (List.mem_append_right _ (List.mem_append_right _ (List.mem_append_right _ (List.mem_append_right _ (List.mem_append_right _ (List.mem_append_right _ (List.mem_append_right _ (List.mem_append_right _ (List.mem_append_right _ (List.mem_append_right _ (List.mem_append_right _ (List.mem_append_right _ (List.mem_append_right _ (List.mem_append_right _ (List.mem_append_right _ (List.mem_append_right _ (List.mem_append_right _ (List.mem_append_right _ (List.mem_append_left _ h)))))))))))))))))))))))))))))))))))))))))))))))))))))))))))))
theorem inl_wsL_law_r49 : ∀ w ∈ wsL_law_r49, w ∈ wsL_law := fun _ h => List.mem_append_left _ (List.mem_append_left _ (List.mem_append_left _ (List.mem_append_left _ (List.mem_append_left _ (List.mem_append_left _ (List.mem_append_left _ (List.mem_append_left _ (List.mem_append_left _ (List.mem_append_left _ (List.mem_append_left _ (List.mem_append_left _ (List.mem_append_left _ (List.mem_append_left _ (List.mem_append_right _ (List.mem_append_right _ (List.mem_append_right _ (List.mem_append_right _ (List.mem_append_right _ (List.mem_append_right _ (List.mem_append_right _ (List.mem_append_right _ (List.mem_append_right _ (List.mem_append_right _ (List.mem_append_right _ (List.mem_append_right _ (List.mem_append_right _ (List.mem_append_right _ (List.mem_append_right _ (List.mem_append_right _ (List.mem_append_right _ (List.mem_append_right _ (List.mem_append_right _ (List.mem_append_right _ (List.mem_append_right _ (List.mem_append_right _ (List.mem_append_right _ (List.mem_append_right _ (List.mem_append_right _ (List.mem_append_right _ (List.mem_append_right _ (List.mem_append_right _ (List.mem_append_right _ (List.mem_append_right _ (List.mem_append_right _ (List.mem_append_right _ (List.mem_append_right _ (List.mem_append_right _ (List.mem_append_right _ (List.mem_append_right _ (List.mem_append_right _ (List.mem_append_right _ (List.mem_append_right _ (List.mem_append_right _ (List.mem_append_right _ (List.mem_append_right _ (List.mem_append_right _ (List.mem_append_right _ (List.mem_append_right _ (List.mem_append_right _ (List.mem_append_right _ (List.mem_append_right _ (h))))))))))))))))))))))))))))))))))))))))))))))))))))))))))))))
theorem zm0 : Cond.classLink RL 7 RX11 ∈ wsL_law := inl_wsL_law_r1 _ (List.mem_of_getElem? (i := 0) (by decide +kernel))
theorem zm1 : Cond.instantiable RX11 4 ∈ wsL_law := inl_wsL_law_r1 _ (List.mem_of_getElem? (i := 1) (by decide +kernel))
theorem zm2 : Cond.initialized RX11 ∈ wsL_law := inl_wsL_law_r1 _ (List.mem_of_getElem? (i := 2) (by decide +kernel))
theorem zm3 : Cond.classLink RL 10 RX12 ∈ wsL_law := inl_wsL_law_r1 _ (List.mem_of_getElem? (i := 3) (by decide +kernel))
theorem zm4 : Cond.instantiable RX12 24 ∈ wsL_law := inl_wsL_law_r1 _ (List.mem_of_getElem? (i := 4) (by decide +kernel))
theorem zm5 : Cond.initialized RX12 ∈ wsL_law := inl_wsL_law_r1 _ (List.mem_of_getElem? (i := 5) (by decide +kernel))
theorem zm6 : Cond.methodLink RL 9 yX11_init ∈ wsL_law := inl_wsL_law_r1 _ (List.mem_of_getElem? (i := 6) (by decide +kernel))
theorem zm7 : Cond.instanceMethod yX11_init ∈ wsL_law := inl_wsL_law_r1 _ (List.mem_of_getElem? (i := 7) (by decide +kernel))
theorem zm8 : Cond.code yX11_init cX11_init 1 none ∈ wsL_law := inl_wsL_law_r1 _ (List.mem_of_getElem? (i := 8) (by decide +kernel))
theorem zm9 : Cond.methodLink RX11 3 objectInit ∈ wsL_law := inl_wsL_law_r1 _ (List.mem_of_getElem? (i := 9) (by decide +kernel))
theorem zm10 : Cond.instanceMethod objectInit ∈ wsL_law := inl_wsL_law_r1 _ (List.mem_of_getElem? (i := 10) (by decide +kernel))
theorem zm11 : Cond.code objectInit ⟨#[0xb1]⟩ 1 none ∈ wsL_law := inl_wsL_law_r1 _ (List.mem_of_getElem? (i := 11) (by decide +kernel))
theorem zm12 : Cond.classLink RX11 9 RX2 ∈ wsL_law := inl_wsL_law_r1 _ (List.mem_of_getElem? (i := 12) (by decide +kernel))
theorem zm13 : Cond.instantiable RX2 13 ∈ wsL_law := inl_wsL_law_r1 _ (List.mem_of_getElem? (i := 13) (by decide +kernel))
theorem zm14 : Cond.initialized RX2 ∈ wsL_law := inl_wsL_law_r1 _ (List.mem_of_getElem? (i := 14) (by decide +kernel))
theorem zm15 : Cond.fieldLink RX11 12 "TwoPens" "desk" "LTwoPens$Desk;" ∈ wsL_law := inl_wsL_law_r1 _ (List.mem_of_getElem? (i := 15) (by decide +kernel))
theorem zm16 : Cond.fieldLink RX11 18 "TwoPens" "kept" "LTwoPens$Desk;" ∈ wsL_law := inl_wsL_law_r1 _ (List.mem_of_getElem? (i := 16) (by decide +kernel))
theorem zm17 : Cond.classLink RX11 21 RX8 ∈ wsL_law := inl_wsL_law_r1 _ (List.mem_of_getElem? (i := 17) (by decide +kernel))
theorem zm18 : Cond.instantiable RX8 2 ∈ wsL_law := inl_wsL_law_r1 _ (List.mem_of_getElem? (i := 18) (by decide +kernel))
theorem zm19 : Cond.initialized RX8 ∈ wsL_law := inl_wsL_law_r1 _ (List.mem_of_getElem? (i := 19) (by decide +kernel))
theorem zm20 : Cond.fieldLink RX11 24 "TwoPens" "trace" "LTwoPens$Trace;" ∈ wsL_law := inl_wsL_law_r1 _ (List.mem_of_getElem? (i := 20) (by decide +kernel))
theorem zm21 : Cond.instanceMethod yX2_init ∈ wsL_law := inl_wsL_law_r1 _ (List.mem_of_getElem? (i := 21) (by decide +kernel))
theorem zm22 : Cond.code yX2_init cX2_init 1 none ∈ wsL_law := inl_wsL_law_r1 _ (List.mem_of_getElem? (i := 22) (by decide +kernel))
theorem zm23 : Cond.methodLink RX2 3 objectInit ∈ wsL_law := inl_wsL_law_r1 _ (List.mem_of_getElem? (i := 23) (by decide +kernel))
theorem zm24 : Cond.classLink RX2 9 RX4 ∈ wsL_law := inl_wsL_law_r2 _ (List.mem_of_getElem? (i := 0) (by decide +kernel))
theorem zm25 : Cond.fieldLink RX2 11 "TwoPens$Desk" "ways" "[LTwoPens$Line;" ∈ wsL_law := inl_wsL_law_r2 _ (List.mem_of_getElem? (i := 1) (by decide +kernel))
theorem zm26 : Cond.classLink RX2 17 RX6 ∈ wsL_law := inl_wsL_law_r2 _ (List.mem_of_getElem? (i := 2) (by decide +kernel))
theorem zm27 : Cond.instantiable RX6 5 ∈ wsL_law := inl_wsL_law_r2 _ (List.mem_of_getElem? (i := 3) (by decide +kernel))
theorem zm28 : Cond.initialized RX6 ∈ wsL_law := inl_wsL_law_r2 _ (List.mem_of_getElem? (i := 4) (by decide +kernel))
theorem zm29 : Cond.fieldLink RX2 20 "TwoPens$Desk" "holding" "LTwoPens$School;" ∈ wsL_law := inl_wsL_law_r2 _ (List.mem_of_getElem? (i := 5) (by decide +kernel))
theorem zm30 : Cond.classLink RX2 24 RX5 ∈ wsL_law := inl_wsL_law_r2 _ (List.mem_of_getElem? (i := 6) (by decide +kernel))
theorem zm31 : Cond.instantiable RX5 2 ∈ wsL_law := inl_wsL_law_r2 _ (List.mem_of_getElem? (i := 7) (by decide +kernel))
theorem zm32 : Cond.initialized RX5 ∈ wsL_law := inl_wsL_law_r2 _ (List.mem_of_getElem? (i := 8) (by decide +kernel))
theorem zm33 : Cond.fieldLink RX2 29 "TwoPens$Desk" "tape" "LTwoPens$Numbers;" ∈ wsL_law := inl_wsL_law_r2 _ (List.mem_of_getElem? (i := 9) (by decide +kernel))
theorem zm34 : Cond.fieldLink RX2 33 "TwoPens$Desk" "sheet" "LTwoPens$Numbers;" ∈ wsL_law := inl_wsL_law_r2 _ (List.mem_of_getElem? (i := 10) (by decide +kernel))
theorem zm35 : Cond.fieldLink RX2 36 "TwoPens$Desk" "places" "LTwoPens$Numbers;" ∈ wsL_law := inl_wsL_law_r2 _ (List.mem_of_getElem? (i := 11) (by decide +kernel))
theorem zm36 : Cond.fieldLink RX2 39 "TwoPens$Desk" "shown" "LTwoPens$Numbers;" ∈ wsL_law := inl_wsL_law_r2 _ (List.mem_of_getElem? (i := 12) (by decide +kernel))
theorem zm37 : Cond.fieldLink RX2 42 "TwoPens$Desk" "days" "LTwoPens$Numbers;" ∈ wsL_law := inl_wsL_law_r2 _ (List.mem_of_getElem? (i := 13) (by decide +kernel))
theorem zm38 : Cond.fieldLink RX2 45 "TwoPens$Desk" "bookPlaces" "LTwoPens$Numbers;" ∈ wsL_law := inl_wsL_law_r2 _ (List.mem_of_getElem? (i := 14) (by decide +kernel))
theorem zm39 : Cond.fieldLink RX2 48 "TwoPens$Desk" "bookWays" "LTwoPens$Numbers;" ∈ wsL_law := inl_wsL_law_r2 _ (List.mem_of_getElem? (i := 15) (by decide +kernel))
theorem zm40 : Cond.instanceMethod yX6_init ∈ wsL_law := inl_wsL_law_r2 _ (List.mem_of_getElem? (i := 16) (by decide +kernel))
theorem zm41 : Cond.code yX6_init cX6_init 1 none ∈ wsL_law := inl_wsL_law_r2 _ (List.mem_of_getElem? (i := 17) (by decide +kernel))
theorem zm42 : Cond.methodLink RX6 3 objectInit ∈ wsL_law := inl_wsL_law_r2 _ (List.mem_of_getElem? (i := 18) (by decide +kernel))
theorem zm43 : Cond.fieldLink RX6 9 "TwoPens$School" "want" "I" ∈ wsL_law := inl_wsL_law_r2 _ (List.mem_of_getElem? (i := 19) (by decide +kernel))
theorem zm44 : Cond.fieldLink RX6 15 "TwoPens$School" "look" "I" ∈ wsL_law := inl_wsL_law_r2 _ (List.mem_of_getElem? (i := 20) (by decide +kernel))
theorem zm45 : Cond.arrayClass .int ∈ wsL_law := inl_wsL_law_r2 _ (List.mem_of_getElem? (i := 21) (by decide +kernel))
theorem zm46 : Cond.fieldLink RX6 18 "TwoPens$School" "codes" "[I" ∈ wsL_law := inl_wsL_law_r2 _ (List.mem_of_getElem? (i := 22) (by decide +kernel))
theorem zm47 : Cond.methodLink RX2 26 yX5_init ∈ wsL_law := inl_wsL_law_r2 _ (List.mem_of_getElem? (i := 23) (by decide +kernel))
theorem zm48 : Cond.instanceMethod yX5_init ∈ wsL_law := inl_wsL_law_r3 _ (List.mem_of_getElem? (i := 0) (by decide +kernel))
theorem zm49 : Cond.code yX5_init cX5_init 2 none ∈ wsL_law := inl_wsL_law_r3 _ (List.mem_of_getElem? (i := 1) (by decide +kernel))
theorem zm50 : Cond.methodLink RX5 1 objectInit ∈ wsL_law := inl_wsL_law_r3 _ (List.mem_of_getElem? (i := 2) (by decide +kernel))
theorem zm51 : Cond.methodLink RX5 7 Lib.Math.max.name ∈ wsL_law := inl_wsL_law_r3 _ (List.mem_of_getElem? (i := 3) (by decide +kernel))
theorem zm52 : Cond.static Lib.Math.max.name ∈ wsL_law := inl_wsL_law_r3 _ (List.mem_of_getElem? (i := 4) (by decide +kernel))
theorem zm53 : Cond.initialized "java/lang/Math" ∈ wsL_law := inl_wsL_law_r3 _ (List.mem_of_getElem? (i := 5) (by decide +kernel))
theorem zm54 : Cond.code Lib.Math.max.name Lib.Math.max.code 2 (some .int) ∈ wsL_law := inl_wsL_law_r3 _ (List.mem_of_getElem? (i := 6) (by decide +kernel))
theorem zm55 : Cond.fieldLink RX5 13 "TwoPens$Numbers" "items" "[I" ∈ wsL_law := inl_wsL_law_r3 _ (List.mem_of_getElem? (i := 7) (by decide +kernel))
theorem zm56 : Cond.instanceMethod yX8_init ∈ wsL_law := inl_wsL_law_r3 _ (List.mem_of_getElem? (i := 8) (by decide +kernel))
theorem zm57 : Cond.code yX8_init cX8_init 1 none ∈ wsL_law := inl_wsL_law_r3 _ (List.mem_of_getElem? (i := 9) (by decide +kernel))
theorem zm58 : Cond.methodLink RX8 3 objectInit ∈ wsL_law := inl_wsL_law_r3 _ (List.mem_of_getElem? (i := 10) (by decide +kernel))
theorem zm59 : Cond.fieldLink RX8 9 "TwoPens$Trace" "bodies" "[I" ∈ wsL_law := inl_wsL_law_r3 _ (List.mem_of_getElem? (i := 11) (by decide +kernel))
theorem zm60 : Cond.methodLink RL 12 yX12_init ∈ wsL_law := inl_wsL_law_r3 _ (List.mem_of_getElem? (i := 12) (by decide +kernel))
theorem zm61 : Cond.instanceMethod yX12_init ∈ wsL_law := inl_wsL_law_r3 _ (List.mem_of_getElem? (i := 13) (by decide +kernel))
theorem zm62 : Cond.code yX12_init cX12_init 1 none ∈ wsL_law := inl_wsL_law_r3 _ (List.mem_of_getElem? (i := 14) (by decide +kernel))
theorem zm63 : Cond.methodLink RX12 3 objectInit ∈ wsL_law := inl_wsL_law_r3 _ (List.mem_of_getElem? (i := 15) (by decide +kernel))
theorem zm64 : Cond.fieldLink RX12 9 "TwoPensModel" "s" "[I" ∈ wsL_law := inl_wsL_law_r3 _ (List.mem_of_getElem? (i := 16) (by decide +kernel))
theorem zm65 : Cond.fieldLink RX12 15 "TwoPensModel" "image" "[I" ∈ wsL_law := inl_wsL_law_r3 _ (List.mem_of_getElem? (i := 17) (by decide +kernel))
theorem zm66 : Cond.fieldLink RX12 18 "TwoPensModel" "by" "[I" ∈ wsL_law := inl_wsL_law_r3 _ (List.mem_of_getElem? (i := 18) (by decide +kernel))
theorem zm67 : Cond.arrayClass .boolean ∈ wsL_law := inl_wsL_law_r3 _ (List.mem_of_getElem? (i := 19) (by decide +kernel))
theorem zm68 : Cond.fieldLink RX12 21 "TwoPensModel" "truths" "[Z" ∈ wsL_law := inl_wsL_law_r3 _ (List.mem_of_getElem? (i := 20) (by decide +kernel))
theorem zm69 : Cond.fieldLink RX12 25 "TwoPensModel" "places" "[I" ∈ wsL_law := inl_wsL_law_r3 _ (List.mem_of_getElem? (i := 21) (by decide +kernel))
theorem zm70 : Cond.fieldLink RX12 28 "TwoPensModel" "signs" "[I" ∈ wsL_law := inl_wsL_law_r3 _ (List.mem_of_getElem? (i := 22) (by decide +kernel))
theorem zm71 : Cond.fieldLink RX12 31 "TwoPensModel" "bodies" "[I" ∈ wsL_law := inl_wsL_law_r3 _ (List.mem_of_getElem? (i := 23) (by decide +kernel))
theorem zm72 : Cond.methodLink RL 13 yX11_feed ∈ wsL_law := inl_wsL_law_r4 _ (List.mem_of_getElem? (i := 0) (by decide +kernel))
theorem zm73 : Cond.instanceMethod yX11_feed ∈ wsL_law := inl_wsL_law_r4 _ (List.mem_of_getElem? (i := 1) (by decide +kernel))
theorem zm74 : Cond.selects RX11 yX11_feed yX11_feed ∈ wsL_law := inl_wsL_law_r4 _ (List.mem_of_getElem? (i := 2) (by decide +kernel))
theorem zm75 : Cond.code yX11_feed cX11_feed 2 (some .int) ∈ wsL_law := inl_wsL_law_r4 _ (List.mem_of_getElem? (i := 3) (by decide +kernel))
theorem zm76 : Cond.fieldLink RX11 28 "TwoPens$Desk" "tape" "LTwoPens$Numbers;" ∈ wsL_law := inl_wsL_law_r4 _ (List.mem_of_getElem? (i := 4) (by decide +kernel))
theorem zm77 : Cond.methodLink RX11 32 yX5_add ∈ wsL_law := inl_wsL_law_r4 _ (List.mem_of_getElem? (i := 5) (by decide +kernel))
theorem zm78 : Cond.instanceMethod yX5_add ∈ wsL_law := inl_wsL_law_r4 _ (List.mem_of_getElem? (i := 6) (by decide +kernel))
theorem zm79 : Cond.selects RX5 yX5_add yX5_add ∈ wsL_law := inl_wsL_law_r4 _ (List.mem_of_getElem? (i := 7) (by decide +kernel))
theorem zm80 : Cond.code yX5_add cX5_add 2 (some .boolean) ∈ wsL_law := inl_wsL_law_r4 _ (List.mem_of_getElem? (i := 8) (by decide +kernel))
theorem zm81 : Cond.fieldLink RX5 19 "TwoPens$Numbers" "size" "I" ∈ wsL_law := inl_wsL_law_r4 _ (List.mem_of_getElem? (i := 9) (by decide +kernel))
theorem zm82 : Cond.methodLink RX11 38 yX5_size ∈ wsL_law := inl_wsL_law_r4 _ (List.mem_of_getElem? (i := 10) (by decide +kernel))
theorem zm83 : Cond.instanceMethod yX5_size ∈ wsL_law := inl_wsL_law_r4 _ (List.mem_of_getElem? (i := 11) (by decide +kernel))
theorem zm84 : Cond.selects RX5 yX5_size yX5_size ∈ wsL_law := inl_wsL_law_r4 _ (List.mem_of_getElem? (i := 12) (by decide +kernel))
theorem zm85 : Cond.code yX5_size cX5_size 1 (some .int) ∈ wsL_law := inl_wsL_law_r4 _ (List.mem_of_getElem? (i := 13) (by decide +kernel))
theorem zm86 : Cond.methodLink RL 17 yX12_feed ∈ wsL_law := inl_wsL_law_r4 _ (List.mem_of_getElem? (i := 14) (by decide +kernel))
theorem zm87 : Cond.instanceMethod yX12_feed ∈ wsL_law := inl_wsL_law_r4 _ (List.mem_of_getElem? (i := 15) (by decide +kernel))
theorem zm88 : Cond.selects RX12 yX12_feed yX12_feed ∈ wsL_law := inl_wsL_law_r4 _ (List.mem_of_getElem? (i := 16) (by decide +kernel))
theorem zm89 : Cond.code yX12_feed cX12_feed 2 (some .int) ∈ wsL_law := inl_wsL_law_r4 _ (List.mem_of_getElem? (i := 17) (by decide +kernel))
theorem zm90 : Cond.methodLink RX12 38 yX12_in ∈ wsL_law := inl_wsL_law_r4 _ (List.mem_of_getElem? (i := 18) (by decide +kernel))
theorem zm91 : Cond.static yX12_in ∈ wsL_law := inl_wsL_law_r4 _ (List.mem_of_getElem? (i := 19) (by decide +kernel))
theorem zm92 : Cond.code yX12_in cX12_in 3 (some .boolean) ∈ wsL_law := inl_wsL_law_r4 _ (List.mem_of_getElem? (i := 20) (by decide +kernel))
theorem zm93 : Cond.methodLink RL 18 yX11_school ∈ wsL_law := inl_wsL_law_r4 _ (List.mem_of_getElem? (i := 21) (by decide +kernel))
theorem zm94 : Cond.instanceMethod yX11_school ∈ wsL_law := inl_wsL_law_r4 _ (List.mem_of_getElem? (i := 22) (by decide +kernel))
theorem zm95 : Cond.selects RX11 yX11_school yX11_school ∈ wsL_law := inl_wsL_law_r4 _ (List.mem_of_getElem? (i := 23) (by decide +kernel))
theorem zm96 : Cond.code yX11_school cX11_school 3 (some .int) ∈ wsL_law := inl_wsL_law_r5 _ (List.mem_of_getElem? (i := 0) (by decide +kernel))
theorem zm97 : Cond.fieldLink RX11 42 "TwoPens$Desk" "schools" "I" ∈ wsL_law := inl_wsL_law_r5 _ (List.mem_of_getElem? (i := 1) (by decide +kernel))
theorem zm98 : Cond.classLink RX11 46 RX6 ∈ wsL_law := inl_wsL_law_r5 _ (List.mem_of_getElem? (i := 2) (by decide +kernel))
theorem zm99 : Cond.fieldLink RX11 56 "TwoPens$Desk" "holding" "LTwoPens$School;" ∈ wsL_law := inl_wsL_law_r5 _ (List.mem_of_getElem? (i := 3) (by decide +kernel))
theorem zm100 : Cond.methodLink RX11 49 yX6_read ∈ wsL_law := inl_wsL_law_r5 _ (List.mem_of_getElem? (i := 4) (by decide +kernel))
theorem zm101 : Cond.instanceMethod yX6_read ∈ wsL_law := inl_wsL_law_r5 _ (List.mem_of_getElem? (i := 5) (by decide +kernel))
theorem zm102 : Cond.selects RX6 yX6_read yX6_read ∈ wsL_law := inl_wsL_law_r5 _ (List.mem_of_getElem? (i := 6) (by decide +kernel))
theorem zm103 : Cond.code yX6_read cX6_read 4 (some .int) ∈ wsL_law := inl_wsL_law_r5 _ (List.mem_of_getElem? (i := 7) (by decide +kernel))
theorem zm104 : Cond.methodLink RX6 22 yX6_clause ∈ wsL_law := inl_wsL_law_r5 _ (List.mem_of_getElem? (i := 8) (by decide +kernel))
theorem zm105 : Cond.instanceMethod yX6_clause ∈ wsL_law := inl_wsL_law_r5 _ (List.mem_of_getElem? (i := 9) (by decide +kernel))
theorem zm106 : Cond.selects RX6 yX6_clause yX6_clause ∈ wsL_law := inl_wsL_law_r5 _ (List.mem_of_getElem? (i := 10) (by decide +kernel))
theorem zm107 : Cond.code yX6_clause cX6_clause 3 (some .int) ∈ wsL_law := inl_wsL_law_r5 _ (List.mem_of_getElem? (i := 11) (by decide +kernel))
theorem zm108 : Cond.methodLink RX6 40 yX5_get ∈ wsL_law := inl_wsL_law_r5 _ (List.mem_of_getElem? (i := 12) (by decide +kernel))
theorem zm109 : Cond.instanceMethod yX5_get ∈ wsL_law := inl_wsL_law_r5 _ (List.mem_of_getElem? (i := 13) (by decide +kernel))
theorem zm110 : Cond.selects RX5 yX5_get yX5_get ∈ wsL_law := inl_wsL_law_r5 _ (List.mem_of_getElem? (i := 14) (by decide +kernel))
theorem zm111 : Cond.code yX5_get cX5_get 2 (some .int) ∈ wsL_law := inl_wsL_law_r5 _ (List.mem_of_getElem? (i := 15) (by decide +kernel))
theorem zm112 : Cond.methodLink RX6 45 yX6_setting ∈ wsL_law := inl_wsL_law_r5 _ (List.mem_of_getElem? (i := 16) (by decide +kernel))
theorem zm113 : Cond.instanceMethod yX6_setting ∈ wsL_law := inl_wsL_law_r5 _ (List.mem_of_getElem? (i := 17) (by decide +kernel))
theorem zm114 : Cond.selects RX6 yX6_setting yX6_setting ∈ wsL_law := inl_wsL_law_r5 _ (List.mem_of_getElem? (i := 18) (by decide +kernel))
theorem zm115 : Cond.code yX6_setting cX6_setting 7 (some .int) ∈ wsL_law := inl_wsL_law_r5 _ (List.mem_of_getElem? (i := 19) (by decide +kernel))
theorem zm116 : Cond.methodLink RX6 65 Lib.Math.min.name ∈ wsL_law := inl_wsL_law_r5 _ (List.mem_of_getElem? (i := 20) (by decide +kernel))
theorem zm117 : Cond.static Lib.Math.min.name ∈ wsL_law := inl_wsL_law_r5 _ (List.mem_of_getElem? (i := 21) (by decide +kernel))
theorem zm118 : Cond.code Lib.Math.min.name Lib.Math.min.code 2 (some .int) ∈ wsL_law := inl_wsL_law_r5 _ (List.mem_of_getElem? (i := 22) (by decide +kernel))
theorem zm119 : Cond.methodLink RX6 71 Lib.Math.max.name ∈ wsL_law := inl_wsL_law_r5 _ (List.mem_of_getElem? (i := 23) (by decide +kernel))
theorem zm120 : Cond.fieldLink RX6 74 "TwoPens$School" "count" "I" ∈ wsL_law := inl_wsL_law_r6 _ (List.mem_of_getElem? (i := 0) (by decide +kernel))
theorem zm121 : Cond.methodLink RX6 56 yX6_words ∈ wsL_law := inl_wsL_law_r6 _ (List.mem_of_getElem? (i := 1) (by decide +kernel))
theorem zm122 : Cond.static yX6_words ∈ wsL_law := inl_wsL_law_r6 _ (List.mem_of_getElem? (i := 2) (by decide +kernel))
theorem zm123 : Cond.code yX6_words cX6_words 5 (some .int) ∈ wsL_law := inl_wsL_law_r6 _ (List.mem_of_getElem? (i := 3) (by decide +kernel))
theorem zm124 : Cond.methodLink RX6 86 yJ0_length_8abf5 ∈ wsL_law := inl_wsL_law_r6 _ (List.mem_of_getElem? (i := 4) (by decide +kernel))
theorem zm125 : Cond.instanceMethod yJ0_length_8abf5 ∈ wsL_law := inl_wsL_law_r6 _ (List.mem_of_getElem? (i := 5) (by decide +kernel))
theorem zm126 : Cond.selects RJ0 yJ0_length_8abf5 yJ0_length_8abf5 ∈ wsL_law := inl_wsL_law_r6 _ (List.mem_of_getElem? (i := 6) (by decide +kernel))
theorem zm127 : Cond.initialized RJ0 ∈ wsL_law := inl_wsL_law_r6 _ (List.mem_of_getElem? (i := 7) (by decide +kernel))
theorem zm128 : Cond.code yJ0_length_8abf5 cJ0_length_8abf5 1 (some .int) ∈ wsL_law := inl_wsL_law_r6 _ (List.mem_of_getElem? (i := 8) (by decide +kernel))
theorem zm129 : Cond.fieldLink RJ0 9 "java/lang/String" "value" "[B" ∈ wsL_law := inl_wsL_law_r6 _ (List.mem_of_getElem? (i := 9) (by decide +kernel))
theorem zm130 : Cond.methodLink RJ0 335 yJ0_coder_7d493 ∈ wsL_law := inl_wsL_law_r6 _ (List.mem_of_getElem? (i := 10) (by decide +kernel))
theorem zm131 : Cond.instanceMethod yJ0_coder_7d493 ∈ wsL_law := inl_wsL_law_r6 _ (List.mem_of_getElem? (i := 11) (by decide +kernel))
theorem zm132 : Cond.selects RJ0 yJ0_coder_7d493 yJ0_coder_7d493 ∈ wsL_law := inl_wsL_law_r6 _ (List.mem_of_getElem? (i := 12) (by decide +kernel))
theorem zm133 : Cond.code yJ0_coder_7d493 cJ0_coder_7d493 1 (some .byte) ∈ wsL_law := inl_wsL_law_r6 _ (List.mem_of_getElem? (i := 13) (by decide +kernel))
theorem zm134 : Cond.fieldLink RJ0 38 "java/lang/String" "COMPACT_STRINGS" "Z" ∈ wsL_law := inl_wsL_law_r6 _ (List.mem_of_getElem? (i := 14) (by decide +kernel))
theorem zm135 : Cond.fieldLink RJ0 15 "java/lang/String" "coder" "B" ∈ wsL_law := inl_wsL_law_r6 _ (List.mem_of_getElem? (i := 15) (by decide +kernel))
theorem zm136 : Cond.methodLink RX6 91 yJ0_charAt_5068e ∈ wsL_law := inl_wsL_law_r6 _ (List.mem_of_getElem? (i := 16) (by decide +kernel))
theorem zm137 : Cond.instanceMethod yJ0_charAt_5068e ∈ wsL_law := inl_wsL_law_r6 _ (List.mem_of_getElem? (i := 17) (by decide +kernel))
theorem zm138 : Cond.selects RJ0 yJ0_charAt_5068e yJ0_charAt_5068e ∈ wsL_law := inl_wsL_law_r6 _ (List.mem_of_getElem? (i := 18) (by decide +kernel))
theorem zm139 : Cond.code yJ0_charAt_5068e cJ0_charAt_5068e 2 (some .char) ∈ wsL_law := inl_wsL_law_r6 _ (List.mem_of_getElem? (i := 19) (by decide +kernel))
theorem zm140 : Cond.methodLink RJ0 492 yJ0_isLatin1_aae02 ∈ wsL_law := inl_wsL_law_r6 _ (List.mem_of_getElem? (i := 20) (by decide +kernel))
theorem zm141 : Cond.instanceMethod yJ0_isLatin1_aae02 ∈ wsL_law := inl_wsL_law_r6 _ (List.mem_of_getElem? (i := 21) (by decide +kernel))
theorem zm142 : Cond.selects RJ0 yJ0_isLatin1_aae02 yJ0_isLatin1_aae02 ∈ wsL_law := inl_wsL_law_r6 _ (List.mem_of_getElem? (i := 22) (by decide +kernel))
theorem zm143 : Cond.code yJ0_isLatin1_aae02 cJ0_isLatin1_aae02 1 (some .boolean) ∈ wsL_law := inl_wsL_law_r6 _ (List.mem_of_getElem? (i := 23) (by decide +kernel))
theorem zm144 : Cond.methodLink RJ0 495 yJ1_charAt_3b067 ∈ wsL_law := inl_wsL_law_r7 _ (List.mem_of_getElem? (i := 0) (by decide +kernel))
theorem zm145 : Cond.static yJ1_charAt_3b067 ∈ wsL_law := inl_wsL_law_r7 _ (List.mem_of_getElem? (i := 1) (by decide +kernel))
theorem zm146 : Cond.initialized RJ1 ∈ wsL_law := inl_wsL_law_r7 _ (List.mem_of_getElem? (i := 2) (by decide +kernel))
theorem zm147 : Cond.code yJ1_charAt_3b067 cJ1_charAt_3b067 2 (some .char) ∈ wsL_law := inl_wsL_law_r7 _ (List.mem_of_getElem? (i := 3) (by decide +kernel))
theorem zm148 : Cond.methodLink RJ1 9 yJ0_checkIndex_df160 ∈ wsL_law := inl_wsL_law_r7 _ (List.mem_of_getElem? (i := 4) (by decide +kernel))
theorem zm149 : Cond.static yJ0_checkIndex_df160 ∈ wsL_law := inl_wsL_law_r7 _ (List.mem_of_getElem? (i := 5) (by decide +kernel))
theorem zm150 : Cond.code yJ0_checkIndex_df160 cJ0_checkIndex_df160 2 none ∈ wsL_law := inl_wsL_law_r7 _ (List.mem_of_getElem? (i := 6) (by decide +kernel))
theorem zm151 : Cond.fieldLink RJ0 1053 "jdk/internal/util/Preconditions" "SIOOBE_FORMATTER" "Ljava/util/function/BiFunction;" ∈ wsL_law := inl_wsL_law_r7 _ (List.mem_of_getElem? (i := 7) (by decide +kernel))
theorem zm152 : Cond.methodLink RJ0 1059 yJ3_checkIndex_8e157 ∈ wsL_law := inl_wsL_law_r7 _ (List.mem_of_getElem? (i := 8) (by decide +kernel))
theorem zm153 : Cond.static yJ3_checkIndex_8e157 ∈ wsL_law := inl_wsL_law_r7 _ (List.mem_of_getElem? (i := 9) (by decide +kernel))
theorem zm154 : Cond.initialized RJ3 ∈ wsL_law := inl_wsL_law_r7 _ (List.mem_of_getElem? (i := 10) (by decide +kernel))
theorem zm155 : Cond.code yJ3_checkIndex_8e157 cJ3_checkIndex_8e157 3 (some .int) ∈ wsL_law := inl_wsL_law_r7 _ (List.mem_of_getElem? (i := 11) (by decide +kernel))
theorem zm156 : Cond.methodLink RJ0 498 yJ2_charAt_3b067 ∈ wsL_law := inl_wsL_law_r7 _ (List.mem_of_getElem? (i := 12) (by decide +kernel))
theorem zm157 : Cond.static yJ2_charAt_3b067 ∈ wsL_law := inl_wsL_law_r7 _ (List.mem_of_getElem? (i := 13) (by decide +kernel))
theorem zm158 : Cond.initialized RJ2 ∈ wsL_law := inl_wsL_law_r7 _ (List.mem_of_getElem? (i := 14) (by decide +kernel))
theorem zm159 : Cond.code yJ2_charAt_3b067 cJ2_charAt_3b067 2 (some .char) ∈ wsL_law := inl_wsL_law_r7 _ (List.mem_of_getElem? (i := 15) (by decide +kernel))
theorem zm160 : Cond.methodLink RJ2 67 yJ2_checkIndex_2214a ∈ wsL_law := inl_wsL_law_r7 _ (List.mem_of_getElem? (i := 16) (by decide +kernel))
theorem zm161 : Cond.static yJ2_checkIndex_2214a ∈ wsL_law := inl_wsL_law_r7 _ (List.mem_of_getElem? (i := 17) (by decide +kernel))
theorem zm162 : Cond.code yJ2_checkIndex_2214a cJ2_checkIndex_2214a 2 none ∈ wsL_law := inl_wsL_law_r7 _ (List.mem_of_getElem? (i := 18) (by decide +kernel))
theorem zm163 : Cond.methodLink RJ2 48 yJ2_length_9d52b ∈ wsL_law := inl_wsL_law_r7 _ (List.mem_of_getElem? (i := 19) (by decide +kernel))
theorem zm164 : Cond.static yJ2_length_9d52b ∈ wsL_law := inl_wsL_law_r7 _ (List.mem_of_getElem? (i := 20) (by decide +kernel))
theorem zm165 : Cond.code yJ2_length_9d52b cJ2_length_9d52b 1 (some .int) ∈ wsL_law := inl_wsL_law_r7 _ (List.mem_of_getElem? (i := 21) (by decide +kernel))
theorem zm166 : Cond.methodLink RJ2 414 yJ0_checkIndex_df160 ∈ wsL_law := inl_wsL_law_r7 _ (List.mem_of_getElem? (i := 22) (by decide +kernel))
theorem zm167 : Cond.methodLink RJ2 71 yJ2_getChar_3b067 ∈ wsL_law := inl_wsL_law_r7 _ (List.mem_of_getElem? (i := 23) (by decide +kernel))
theorem zm168 : Cond.static yJ2_getChar_3b067 ∈ wsL_law := inl_wsL_law_r8 _ (List.mem_of_getElem? (i := 0) (by decide +kernel))
theorem zm169 : Cond.code yJ2_getChar_3b067 cJ2_getChar_3b067 2 (some .char) ∈ wsL_law := inl_wsL_law_r8 _ (List.mem_of_getElem? (i := 1) (by decide +kernel))
theorem zm170 : Cond.fieldLink RJ2 44 "java/lang/StringUTF16" "$assertionsDisabled" "Z" ∈ wsL_law := inl_wsL_law_r8 _ (List.mem_of_getElem? (i := 2) (by decide +kernel))
theorem zm171 : Cond.fieldLink RJ2 59 "java/lang/StringUTF16" "HI_BYTE_SHIFT" "I" ∈ wsL_law := inl_wsL_law_r8 _ (List.mem_of_getElem? (i := 3) (by decide +kernel))
theorem zm172 : Cond.fieldLink RJ2 63 "java/lang/StringUTF16" "LO_BYTE_SHIFT" "I" ∈ wsL_law := inl_wsL_law_r8 _ (List.mem_of_getElem? (i := 4) (by decide +kernel))
theorem zm173 : Cond.methodLink RX6 36 yX6_expect ∈ wsL_law := inl_wsL_law_r8 _ (List.mem_of_getElem? (i := 5) (by decide +kernel))
theorem zm174 : Cond.static yX6_expect ∈ wsL_law := inl_wsL_law_r8 _ (List.mem_of_getElem? (i := 6) (by decide +kernel))
theorem zm175 : Cond.code yX6_expect cX6_expect 3 (some .int) ∈ wsL_law := inl_wsL_law_r8 _ (List.mem_of_getElem? (i := 7) (by decide +kernel))
theorem zm176 : Cond.methodLink RX6 32 yX6_stuck ∈ wsL_law := inl_wsL_law_r8 _ (List.mem_of_getElem? (i := 8) (by decide +kernel))
theorem zm177 : Cond.static yX6_stuck ∈ wsL_law := inl_wsL_law_r8 _ (List.mem_of_getElem? (i := 9) (by decide +kernel))
theorem zm178 : Cond.code yX6_stuck cX6_stuck 1 (some .int) ∈ wsL_law := inl_wsL_law_r8 _ (List.mem_of_getElem? (i := 10) (by decide +kernel))
theorem zm179 : Cond.methodLink RX6 59 yX6_digits ∈ wsL_law := inl_wsL_law_r8 _ (List.mem_of_getElem? (i := 11) (by decide +kernel))
theorem zm180 : Cond.static yX6_digits ∈ wsL_law := inl_wsL_law_r8 _ (List.mem_of_getElem? (i := 12) (by decide +kernel))
theorem zm181 : Cond.code yX6_digits cX6_digits 2 (some .int) ∈ wsL_law := inl_wsL_law_r8 _ (List.mem_of_getElem? (i := 13) (by decide +kernel))
theorem zm182 : Cond.methodLink RX6 95 yX6_isFigure ∈ wsL_law := inl_wsL_law_r8 _ (List.mem_of_getElem? (i := 14) (by decide +kernel))
theorem zm183 : Cond.static yX6_isFigure ∈ wsL_law := inl_wsL_law_r8 _ (List.mem_of_getElem? (i := 15) (by decide +kernel))
theorem zm184 : Cond.code yX6_isFigure cX6_isFigure 1 (some .boolean) ∈ wsL_law := inl_wsL_law_r8 _ (List.mem_of_getElem? (i := 16) (by decide +kernel))
theorem zm185 : Cond.methodLink RX6 62 yX6_valueOf ∈ wsL_law := inl_wsL_law_r8 _ (List.mem_of_getElem? (i := 17) (by decide +kernel))
theorem zm186 : Cond.static yX6_valueOf ∈ wsL_law := inl_wsL_law_r8 _ (List.mem_of_getElem? (i := 18) (by decide +kernel))
theorem zm187 : Cond.code yX6_valueOf cX6_valueOf 5 (some .int) ∈ wsL_law := inl_wsL_law_r8 _ (List.mem_of_getElem? (i := 19) (by decide +kernel))
theorem zm188 : Cond.methodLink RX6 53 yX6_sees ∈ wsL_law := inl_wsL_law_r8 _ (List.mem_of_getElem? (i := 20) (by decide +kernel))
theorem zm189 : Cond.instanceMethod yX6_sees ∈ wsL_law := inl_wsL_law_r8 _ (List.mem_of_getElem? (i := 21) (by decide +kernel))
theorem zm190 : Cond.selects RX6 yX6_sees yX6_sees ∈ wsL_law := inl_wsL_law_r8 _ (List.mem_of_getElem? (i := 22) (by decide +kernel))
theorem zm191 : Cond.code yX6_sees cX6_sees 6 (some .int) ∈ wsL_law := inl_wsL_law_r8 _ (List.mem_of_getElem? (i := 23) (by decide +kernel))
theorem zm192 : Cond.methodLink RX6 79 yX6_either ∈ wsL_law := inl_wsL_law_r9 _ (List.mem_of_getElem? (i := 0) (by decide +kernel))
theorem zm193 : Cond.instanceMethod yX6_either ∈ wsL_law := inl_wsL_law_r9 _ (List.mem_of_getElem? (i := 1) (by decide +kernel))
theorem zm194 : Cond.selects RX6 yX6_either yX6_either ∈ wsL_law := inl_wsL_law_r9 _ (List.mem_of_getElem? (i := 2) (by decide +kernel))
theorem zm195 : Cond.code yX6_either cX6_either 6 (some .int) ∈ wsL_law := inl_wsL_law_r9 _ (List.mem_of_getElem? (i := 3) (by decide +kernel))
theorem zm196 : Cond.methodLink RX6 99 yX6_both ∈ wsL_law := inl_wsL_law_r9 _ (List.mem_of_getElem? (i := 4) (by decide +kernel))
theorem zm197 : Cond.instanceMethod yX6_both ∈ wsL_law := inl_wsL_law_r9 _ (List.mem_of_getElem? (i := 5) (by decide +kernel))
theorem zm198 : Cond.selects RX6 yX6_both yX6_both ∈ wsL_law := inl_wsL_law_r9 _ (List.mem_of_getElem? (i := 6) (by decide +kernel))
theorem zm199 : Cond.methodLink RX6 82 yX6_put ∈ wsL_law := inl_wsL_law_r9 _ (List.mem_of_getElem? (i := 7) (by decide +kernel))
theorem zm200 : Cond.instanceMethod yX6_put ∈ wsL_law := inl_wsL_law_r9 _ (List.mem_of_getElem? (i := 8) (by decide +kernel))
theorem zm201 : Cond.selects RX6 yX6_put yX6_put ∈ wsL_law := inl_wsL_law_r9 _ (List.mem_of_getElem? (i := 9) (by decide +kernel))
theorem zm202 : Cond.code yX6_put cX6_put 2 none ∈ wsL_law := inl_wsL_law_r9 _ (List.mem_of_getElem? (i := 10) (by decide +kernel))
theorem zm203 : Cond.fieldLink RX6 119 "TwoPens$School" "size" "I" ∈ wsL_law := inl_wsL_law_r9 _ (List.mem_of_getElem? (i := 11) (by decide +kernel))
theorem zm204 : Cond.code yX6_both cX6_both 6 (some .int) ∈ wsL_law := inl_wsL_law_r9 _ (List.mem_of_getElem? (i := 12) (by decide +kernel))
theorem zm205 : Cond.methodLink RX6 102 yX6_single ∈ wsL_law := inl_wsL_law_r9 _ (List.mem_of_getElem? (i := 13) (by decide +kernel))
theorem zm206 : Cond.instanceMethod yX6_single ∈ wsL_law := inl_wsL_law_r9 _ (List.mem_of_getElem? (i := 14) (by decide +kernel))
theorem zm207 : Cond.selects RX6 yX6_single yX6_single ∈ wsL_law := inl_wsL_law_r9 _ (List.mem_of_getElem? (i := 15) (by decide +kernel))
theorem zm208 : Cond.code yX6_single cX6_single 6 (some .int) ∈ wsL_law := inl_wsL_law_r9 _ (List.mem_of_getElem? (i := 16) (by decide +kernel))
theorem zm209 : Cond.methodLink RX6 105 yX6_test ∈ wsL_law := inl_wsL_law_r9 _ (List.mem_of_getElem? (i := 17) (by decide +kernel))
theorem zm210 : Cond.instanceMethod yX6_test ∈ wsL_law := inl_wsL_law_r9 _ (List.mem_of_getElem? (i := 18) (by decide +kernel))
theorem zm211 : Cond.selects RX6 yX6_test yX6_test ∈ wsL_law := inl_wsL_law_r9 _ (List.mem_of_getElem? (i := 19) (by decide +kernel))
theorem zm212 : Cond.code yX6_test cX6_test 6 (some .int) ∈ wsL_law := inl_wsL_law_r9 _ (List.mem_of_getElem? (i := 20) (by decide +kernel))
theorem zm213 : Cond.methodLink RX6 110 yX6_placeIn ∈ wsL_law := inl_wsL_law_r9 _ (List.mem_of_getElem? (i := 21) (by decide +kernel))
theorem zm214 : Cond.static yX6_placeIn ∈ wsL_law := inl_wsL_law_r9 _ (List.mem_of_getElem? (i := 22) (by decide +kernel))
theorem zm215 : Cond.code yX6_placeIn cX6_placeIn 2 (some .int) ∈ wsL_law := inl_wsL_law_r9 _ (List.mem_of_getElem? (i := 23) (by decide +kernel))
theorem zm216 : Cond.methodLink RX6 116 yJ0_indexOf_0f7a4 ∈ wsL_law := inl_wsL_law_r10 _ (List.mem_of_getElem? (i := 0) (by decide +kernel))
theorem zm217 : Cond.instanceMethod yJ0_indexOf_0f7a4 ∈ wsL_law := inl_wsL_law_r10 _ (List.mem_of_getElem? (i := 1) (by decide +kernel))
theorem zm218 : Cond.selects RJ0 yJ0_indexOf_0f7a4 yJ0_indexOf_0f7a4 ∈ wsL_law := inl_wsL_law_r10 _ (List.mem_of_getElem? (i := 2) (by decide +kernel))
theorem zm219 : Cond.code yJ0_indexOf_0f7a4 cJ0_indexOf_0f7a4 2 (some .int) ∈ wsL_law := inl_wsL_law_r10 _ (List.mem_of_getElem? (i := 3) (by decide +kernel))
theorem zm220 : Cond.methodLink RJ0 633 yJ0_indexOf_7cf53 ∈ wsL_law := inl_wsL_law_r10 _ (List.mem_of_getElem? (i := 4) (by decide +kernel))
theorem zm221 : Cond.instanceMethod yJ0_indexOf_7cf53 ∈ wsL_law := inl_wsL_law_r10 _ (List.mem_of_getElem? (i := 5) (by decide +kernel))
theorem zm222 : Cond.selects RJ0 yJ0_indexOf_7cf53 yJ0_indexOf_7cf53 ∈ wsL_law := inl_wsL_law_r10 _ (List.mem_of_getElem? (i := 6) (by decide +kernel))
theorem zm223 : Cond.code yJ0_indexOf_7cf53 cJ0_indexOf_7cf53 3 (some .int) ∈ wsL_law := inl_wsL_law_r10 _ (List.mem_of_getElem? (i := 7) (by decide +kernel))
theorem zm224 : Cond.methodLink RJ0 505 yJ0_length_8abf5 ∈ wsL_law := inl_wsL_law_r10 _ (List.mem_of_getElem? (i := 8) (by decide +kernel))
theorem zm225 : Cond.methodLink RJ0 637 yJ1_indexOf_4cfef ∈ wsL_law := inl_wsL_law_r10 _ (List.mem_of_getElem? (i := 9) (by decide +kernel))
theorem zm226 : Cond.static yJ1_indexOf_4cfef ∈ wsL_law := inl_wsL_law_r10 _ (List.mem_of_getElem? (i := 10) (by decide +kernel))
theorem zm227 : Cond.code yJ1_indexOf_4cfef cJ1_indexOf_4cfef 4 (some .int) ∈ wsL_law := inl_wsL_law_r10 _ (List.mem_of_getElem? (i := 11) (by decide +kernel))
theorem zm228 : Cond.methodLink RJ1 92 Lib.Math.max.name ∈ wsL_law := inl_wsL_law_r10 _ (List.mem_of_getElem? (i := 12) (by decide +kernel))
theorem zm229 : Cond.methodLink RJ1 38 Lib.Math.min.name ∈ wsL_law := inl_wsL_law_r10 _ (List.mem_of_getElem? (i := 13) (by decide +kernel))
theorem zm230 : Cond.methodLink RJ1 88 yJ1_canEncode_9a6ad ∈ wsL_law := inl_wsL_law_r10 _ (List.mem_of_getElem? (i := 14) (by decide +kernel))
theorem zm231 : Cond.static yJ1_canEncode_9a6ad ∈ wsL_law := inl_wsL_law_r10 _ (List.mem_of_getElem? (i := 15) (by decide +kernel))
theorem zm232 : Cond.code yJ1_canEncode_9a6ad cJ1_canEncode_9a6ad 1 (some .boolean) ∈ wsL_law := inl_wsL_law_r10 _ (List.mem_of_getElem? (i := 16) (by decide +kernel))
theorem zm233 : Cond.methodLink RJ1 95 yJ1_indexOfChar_4cfef ∈ wsL_law := inl_wsL_law_r10 _ (List.mem_of_getElem? (i := 17) (by decide +kernel))
theorem zm234 : Cond.static yJ1_indexOfChar_4cfef ∈ wsL_law := inl_wsL_law_r10 _ (List.mem_of_getElem? (i := 18) (by decide +kernel))
theorem zm235 : Cond.code yJ1_indexOfChar_4cfef cJ1_indexOfChar_4cfef 6 (some .int) ∈ wsL_law := inl_wsL_law_r10 _ (List.mem_of_getElem? (i := 19) (by decide +kernel))
theorem zm236 : Cond.methodLink RJ0 640 yJ2_indexOf_4cfef ∈ wsL_law := inl_wsL_law_r10 _ (List.mem_of_getElem? (i := 20) (by decide +kernel))
theorem zm237 : Cond.static yJ2_indexOf_4cfef ∈ wsL_law := inl_wsL_law_r10 _ (List.mem_of_getElem? (i := 21) (by decide +kernel))
theorem zm238 : Cond.code yJ2_indexOf_4cfef cJ2_indexOf_4cfef 4 (some .int) ∈ wsL_law := inl_wsL_law_r10 _ (List.mem_of_getElem? (i := 22) (by decide +kernel))
theorem zm239 : Cond.methodLink RJ2 224 Lib.Math.max.name ∈ wsL_law := inl_wsL_law_r10 _ (List.mem_of_getElem? (i := 23) (by decide +kernel))
theorem zm240 : Cond.methodLink RJ2 183 Lib.Math.min.name ∈ wsL_law := inl_wsL_law_r11 _ (List.mem_of_getElem? (i := 0) (by decide +kernel))
theorem zm241 : Cond.constant RJ2 227 (65536) ∈ wsL_law := inl_wsL_law_r11 _ (List.mem_of_getElem? (i := 1) (by decide +kernel))
theorem zm242 : Cond.methodLink RJ2 228 yJ2_indexOfChar_4cfef ∈ wsL_law := inl_wsL_law_r11 _ (List.mem_of_getElem? (i := 2) (by decide +kernel))
theorem zm243 : Cond.static yJ2_indexOfChar_4cfef ∈ wsL_law := inl_wsL_law_r11 _ (List.mem_of_getElem? (i := 3) (by decide +kernel))
theorem zm244 : Cond.code yJ2_indexOfChar_4cfef cJ2_indexOfChar_4cfef 4 (some .int) ∈ wsL_law := inl_wsL_law_r11 _ (List.mem_of_getElem? (i := 4) (by decide +kernel))
theorem zm245 : Cond.methodLink RJ2 96 yJ2_checkBoundsBeginEnd_d044e ∈ wsL_law := inl_wsL_law_r11 _ (List.mem_of_getElem? (i := 5) (by decide +kernel))
theorem zm246 : Cond.static yJ2_checkBoundsBeginEnd_d044e ∈ wsL_law := inl_wsL_law_r11 _ (List.mem_of_getElem? (i := 6) (by decide +kernel))
theorem zm247 : Cond.code yJ2_checkBoundsBeginEnd_d044e cJ2_checkBoundsBeginEnd_d044e 3 none ∈ wsL_law := inl_wsL_law_r11 _ (List.mem_of_getElem? (i := 7) (by decide +kernel))
theorem zm248 : Cond.methodLink RJ2 241 yJ0_checkBoundsBeginEnd_23922 ∈ wsL_law := inl_wsL_law_r11 _ (List.mem_of_getElem? (i := 8) (by decide +kernel))
theorem zm249 : Cond.static yJ0_checkBoundsBeginEnd_23922 ∈ wsL_law := inl_wsL_law_r11 _ (List.mem_of_getElem? (i := 9) (by decide +kernel))
theorem zm250 : Cond.code yJ0_checkBoundsBeginEnd_23922 cJ0_checkBoundsBeginEnd_23922 3 none ∈ wsL_law := inl_wsL_law_r11 _ (List.mem_of_getElem? (i := 10) (by decide +kernel))
theorem zm251 : Cond.methodLink RJ0 1062 yJ3_checkFromToIndex_8c36e ∈ wsL_law := inl_wsL_law_r11 _ (List.mem_of_getElem? (i := 11) (by decide +kernel))
theorem zm252 : Cond.static yJ3_checkFromToIndex_8c36e ∈ wsL_law := inl_wsL_law_r11 _ (List.mem_of_getElem? (i := 12) (by decide +kernel))
theorem zm253 : Cond.code yJ3_checkFromToIndex_8c36e cJ3_checkFromToIndex_8c36e 4 (some .int) ∈ wsL_law := inl_wsL_law_r11 _ (List.mem_of_getElem? (i := 13) (by decide +kernel))
theorem zm254 : Cond.methodLink RJ2 244 yJ2_indexOfCharUnsafe_4cfef ∈ wsL_law := inl_wsL_law_r11 _ (List.mem_of_getElem? (i := 14) (by decide +kernel))
theorem zm255 : Cond.static yJ2_indexOfCharUnsafe_4cfef ∈ wsL_law := inl_wsL_law_r11 _ (List.mem_of_getElem? (i := 15) (by decide +kernel))
theorem zm256 : Cond.code yJ2_indexOfCharUnsafe_4cfef cJ2_indexOfCharUnsafe_4cfef 5 (some .int) ∈ wsL_law := inl_wsL_law_r11 _ (List.mem_of_getElem? (i := 16) (by decide +kernel))
theorem zm257 : Cond.methodLink RJ2 232 yJ2_indexOfSupplementary_4cfef ∈ wsL_law := inl_wsL_law_r11 _ (List.mem_of_getElem? (i := 17) (by decide +kernel))
theorem zm258 : Cond.static yJ2_indexOfSupplementary_4cfef ∈ wsL_law := inl_wsL_law_r11 _ (List.mem_of_getElem? (i := 18) (by decide +kernel))
theorem zm259 : Cond.code yJ2_indexOfSupplementary_4cfef cJ2_indexOfSupplementary_4cfef 7 (some .int) ∈ wsL_law := inl_wsL_law_r11 _ (List.mem_of_getElem? (i := 19) (by decide +kernel))
theorem zm260 : Cond.methodLink RJ2 164 yJ11_isValidCodePoint_9a6ad ∈ wsL_law := inl_wsL_law_r11 _ (List.mem_of_getElem? (i := 20) (by decide +kernel))
theorem zm261 : Cond.static yJ11_isValidCodePoint_9a6ad ∈ wsL_law := inl_wsL_law_r11 _ (List.mem_of_getElem? (i := 21) (by decide +kernel))
theorem zm262 : Cond.initialized RJ11 ∈ wsL_law := inl_wsL_law_r11 _ (List.mem_of_getElem? (i := 22) (by decide +kernel))
theorem zm263 : Cond.code yJ11_isValidCodePoint_9a6ad cJ11_isValidCodePoint_9a6ad 2 (some .boolean) ∈ wsL_law := inl_wsL_law_r11 _ (List.mem_of_getElem? (i := 23) (by decide +kernel))
theorem zm264 : Cond.methodLink RJ2 157 yJ11_highSurrogate_5068e ∈ wsL_law := inl_wsL_law_r12 _ (List.mem_of_getElem? (i := 0) (by decide +kernel))
theorem zm265 : Cond.static yJ11_highSurrogate_5068e ∈ wsL_law := inl_wsL_law_r12 _ (List.mem_of_getElem? (i := 1) (by decide +kernel))
theorem zm266 : Cond.code yJ11_highSurrogate_5068e cJ11_highSurrogate_5068e 1 (some .char) ∈ wsL_law := inl_wsL_law_r12 _ (List.mem_of_getElem? (i := 2) (by decide +kernel))
theorem zm267 : Cond.constant RJ11 110 (55232) ∈ wsL_law := inl_wsL_law_r12 _ (List.mem_of_getElem? (i := 3) (by decide +kernel))
theorem zm268 : Cond.methodLink RJ2 161 yJ11_lowSurrogate_5068e ∈ wsL_law := inl_wsL_law_r12 _ (List.mem_of_getElem? (i := 4) (by decide +kernel))
theorem zm269 : Cond.static yJ11_lowSurrogate_5068e ∈ wsL_law := inl_wsL_law_r12 _ (List.mem_of_getElem? (i := 5) (by decide +kernel))
theorem zm270 : Cond.code yJ11_lowSurrogate_5068e cJ11_lowSurrogate_5068e 1 (some .char) ∈ wsL_law := inl_wsL_law_r12 _ (List.mem_of_getElem? (i := 6) (by decide +kernel))
theorem zm271 : Cond.constant RJ11 76 (56320) ∈ wsL_law := inl_wsL_law_r12 _ (List.mem_of_getElem? (i := 7) (by decide +kernel))
theorem zm272 : Cond.methodLink RX6 26 yX5_size ∈ wsL_law := inl_wsL_law_r12 _ (List.mem_of_getElem? (i := 8) (by decide +kernel))
theorem zm273 : Cond.methodLink RX11 53 yX5_clear ∈ wsL_law := inl_wsL_law_r12 _ (List.mem_of_getElem? (i := 9) (by decide +kernel))
theorem zm274 : Cond.instanceMethod yX5_clear ∈ wsL_law := inl_wsL_law_r12 _ (List.mem_of_getElem? (i := 10) (by decide +kernel))
theorem zm275 : Cond.selects RX5 yX5_clear yX5_clear ∈ wsL_law := inl_wsL_law_r12 _ (List.mem_of_getElem? (i := 11) (by decide +kernel))
theorem zm276 : Cond.code yX5_clear cX5_clear 1 none ∈ wsL_law := inl_wsL_law_r12 _ (List.mem_of_getElem? (i := 12) (by decide +kernel))
theorem zm277 : Cond.methodLink RL 22 yX12_school ∈ wsL_law := inl_wsL_law_r12 _ (List.mem_of_getElem? (i := 13) (by decide +kernel))
theorem zm278 : Cond.instanceMethod yX12_school ∈ wsL_law := inl_wsL_law_r12 _ (List.mem_of_getElem? (i := 14) (by decide +kernel))
theorem zm279 : Cond.selects RX12 yX12_school yX12_school ∈ wsL_law := inl_wsL_law_r12 _ (List.mem_of_getElem? (i := 15) (by decide +kernel))
theorem zm280 : Cond.code yX12_school cX12_school 2 (some .int) ∈ wsL_law := inl_wsL_law_r12 _ (List.mem_of_getElem? (i := 16) (by decide +kernel))
theorem zm281 : Cond.fieldLink RX12 69 "TwoPensModel" "act" "I" ∈ wsL_law := inl_wsL_law_r12 _ (List.mem_of_getElem? (i := 17) (by decide +kernel))
theorem zm282 : Cond.fieldLink RX12 45 "TwoPensModel" "end" "I" ∈ wsL_law := inl_wsL_law_r12 _ (List.mem_of_getElem? (i := 18) (by decide +kernel))
theorem zm283 : Cond.fieldLink RX12 42 "TwoPensModel" "spot" "I" ∈ wsL_law := inl_wsL_law_r12 _ (List.mem_of_getElem? (i := 19) (by decide +kernel))
theorem zm284 : Cond.fieldLink RX12 48 "TwoPensModel" "isWrong" "Z" ∈ wsL_law := inl_wsL_law_r12 _ (List.mem_of_getElem? (i := 20) (by decide +kernel))
theorem zm285 : Cond.fieldLink RX12 72 "TwoPensModel" "open" "I" ∈ wsL_law := inl_wsL_law_r12 _ (List.mem_of_getElem? (i := 21) (by decide +kernel))
theorem zm286 : Cond.methodLink RX12 114 yX12_clauseHere ∈ wsL_law := inl_wsL_law_r12 _ (List.mem_of_getElem? (i := 22) (by decide +kernel))
theorem zm287 : Cond.instanceMethod yX12_clauseHere ∈ wsL_law := inl_wsL_law_r12 _ (List.mem_of_getElem? (i := 23) (by decide +kernel))
theorem zm288 : Cond.selects RX12 yX12_clauseHere yX12_clauseHere ∈ wsL_law := inl_wsL_law_r13 _ (List.mem_of_getElem? (i := 0) (by decide +kernel))
theorem zm289 : Cond.code yX12_clauseHere cX12_clauseHere 2 none ∈ wsL_law := inl_wsL_law_r13 _ (List.mem_of_getElem? (i := 1) (by decide +kernel))
theorem zm290 : Cond.methodLink RX12 52 yX12_here ∈ wsL_law := inl_wsL_law_r13 _ (List.mem_of_getElem? (i := 2) (by decide +kernel))
theorem zm291 : Cond.instanceMethod yX12_here ∈ wsL_law := inl_wsL_law_r13 _ (List.mem_of_getElem? (i := 3) (by decide +kernel))
theorem zm292 : Cond.selects RX12 yX12_here yX12_here ∈ wsL_law := inl_wsL_law_r13 _ (List.mem_of_getElem? (i := 4) (by decide +kernel))
theorem zm293 : Cond.code yX12_here cX12_here 1 (some .int) ∈ wsL_law := inl_wsL_law_r13 _ (List.mem_of_getElem? (i := 5) (by decide +kernel))
theorem zm294 : Cond.methodLink RX12 104 yX12_tellsHere ∈ wsL_law := inl_wsL_law_r13 _ (List.mem_of_getElem? (i := 6) (by decide +kernel))
theorem zm295 : Cond.instanceMethod yX12_tellsHere ∈ wsL_law := inl_wsL_law_r13 _ (List.mem_of_getElem? (i := 7) (by decide +kernel))
theorem zm296 : Cond.selects RX12 yX12_tellsHere yX12_tellsHere ∈ wsL_law := inl_wsL_law_r13 _ (List.mem_of_getElem? (i := 8) (by decide +kernel))
theorem zm297 : Cond.code yX12_tellsHere cX12_tellsHere 4 none ∈ wsL_law := inl_wsL_law_r13 _ (List.mem_of_getElem? (i := 9) (by decide +kernel))
theorem zm298 : Cond.methodLink RX12 98 yX12_spells ∈ wsL_law := inl_wsL_law_r13 _ (List.mem_of_getElem? (i := 10) (by decide +kernel))
theorem zm299 : Cond.instanceMethod yX12_spells ∈ wsL_law := inl_wsL_law_r13 _ (List.mem_of_getElem? (i := 11) (by decide +kernel))
theorem zm300 : Cond.selects RX12 yX12_spells yX12_spells ∈ wsL_law := inl_wsL_law_r13 _ (List.mem_of_getElem? (i := 12) (by decide +kernel))
theorem zm301 : Cond.code yX12_spells cX12_spells 3 none ∈ wsL_law := inl_wsL_law_r13 _ (List.mem_of_getElem? (i := 13) (by decide +kernel))
theorem zm302 : Cond.methodLink RX12 56 yJ0_length_8abf5 ∈ wsL_law := inl_wsL_law_r13 _ (List.mem_of_getElem? (i := 14) (by decide +kernel))
theorem zm303 : Cond.methodLink RX12 61 yJ0_charAt_5068e ∈ wsL_law := inl_wsL_law_r13 _ (List.mem_of_getElem? (i := 15) (by decide +kernel))
theorem zm304 : Cond.methodLink RX12 65 yX12_must ∈ wsL_law := inl_wsL_law_r13 _ (List.mem_of_getElem? (i := 16) (by decide +kernel))
theorem zm305 : Cond.instanceMethod yX12_must ∈ wsL_law := inl_wsL_law_r13 _ (List.mem_of_getElem? (i := 17) (by decide +kernel))
theorem zm306 : Cond.selects RX12 yX12_must yX12_must ∈ wsL_law := inl_wsL_law_r13 _ (List.mem_of_getElem? (i := 18) (by decide +kernel))
theorem zm307 : Cond.code yX12_must cX12_must 2 none ∈ wsL_law := inl_wsL_law_r13 _ (List.mem_of_getElem? (i := 19) (by decide +kernel))
theorem zm308 : Cond.methodLink RX12 92 yX12_figures ∈ wsL_law := inl_wsL_law_r13 _ (List.mem_of_getElem? (i := 20) (by decide +kernel))
theorem zm309 : Cond.instanceMethod yX12_figures ∈ wsL_law := inl_wsL_law_r13 _ (List.mem_of_getElem? (i := 21) (by decide +kernel))
theorem zm310 : Cond.selects RX12 yX12_figures yX12_figures ∈ wsL_law := inl_wsL_law_r13 _ (List.mem_of_getElem? (i := 22) (by decide +kernel))
theorem zm311 : Cond.code yX12_figures cX12_figures 3 (some .int) ∈ wsL_law := inl_wsL_law_r13 _ (List.mem_of_getElem? (i := 23) (by decide +kernel))
theorem zm312 : Cond.methodLink RX12 81 yX12_some ∈ wsL_law := inl_wsL_law_r14 _ (List.mem_of_getElem? (i := 0) (by decide +kernel))
theorem zm313 : Cond.instanceMethod yX12_some ∈ wsL_law := inl_wsL_law_r14 _ (List.mem_of_getElem? (i := 1) (by decide +kernel))
theorem zm314 : Cond.selects RX12 yX12_some yX12_some ∈ wsL_law := inl_wsL_law_r14 _ (List.mem_of_getElem? (i := 2) (by decide +kernel))
theorem zm315 : Cond.code yX12_some cX12_some 1 none ∈ wsL_law := inl_wsL_law_r14 _ (List.mem_of_getElem? (i := 3) (by decide +kernel))
theorem zm316 : Cond.methodLink RX12 95 yX12_every ∈ wsL_law := inl_wsL_law_r14 _ (List.mem_of_getElem? (i := 4) (by decide +kernel))
theorem zm317 : Cond.instanceMethod yX12_every ∈ wsL_law := inl_wsL_law_r14 _ (List.mem_of_getElem? (i := 5) (by decide +kernel))
theorem zm318 : Cond.selects RX12 yX12_every yX12_every ∈ wsL_law := inl_wsL_law_r14 _ (List.mem_of_getElem? (i := 6) (by decide +kernel))
theorem zm319 : Cond.methodLink RX12 78 yX12_emits ∈ wsL_law := inl_wsL_law_r14 _ (List.mem_of_getElem? (i := 7) (by decide +kernel))
theorem zm320 : Cond.instanceMethod yX12_emits ∈ wsL_law := inl_wsL_law_r14 _ (List.mem_of_getElem? (i := 8) (by decide +kernel))
theorem zm321 : Cond.selects RX12 yX12_emits yX12_emits ∈ wsL_law := inl_wsL_law_r14 _ (List.mem_of_getElem? (i := 9) (by decide +kernel))
theorem zm322 : Cond.code yX12_emits cX12_emits 2 none ∈ wsL_law := inl_wsL_law_r14 _ (List.mem_of_getElem? (i := 10) (by decide +kernel))
theorem zm323 : Cond.code yX12_every cX12_every 1 none ∈ wsL_law := inl_wsL_law_r14 _ (List.mem_of_getElem? (i := 11) (by decide +kernel))
theorem zm324 : Cond.methodLink RX12 75 yX12_factor ∈ wsL_law := inl_wsL_law_r14 _ (List.mem_of_getElem? (i := 12) (by decide +kernel))
theorem zm325 : Cond.instanceMethod yX12_factor ∈ wsL_law := inl_wsL_law_r14 _ (List.mem_of_getElem? (i := 13) (by decide +kernel))
theorem zm326 : Cond.selects RX12 yX12_factor yX12_factor ∈ wsL_law := inl_wsL_law_r14 _ (List.mem_of_getElem? (i := 14) (by decide +kernel))
theorem zm327 : Cond.code yX12_factor cX12_factor 5 none ∈ wsL_law := inl_wsL_law_r14 _ (List.mem_of_getElem? (i := 15) (by decide +kernel))
theorem zm328 : Cond.methodLink RX12 86 yX12_among ∈ wsL_law := inl_wsL_law_r14 _ (List.mem_of_getElem? (i := 16) (by decide +kernel))
theorem zm329 : Cond.instanceMethod yX12_among ∈ wsL_law := inl_wsL_law_r14 _ (List.mem_of_getElem? (i := 17) (by decide +kernel))
theorem zm330 : Cond.selects RX12 yX12_among yX12_among ∈ wsL_law := inl_wsL_law_r14 _ (List.mem_of_getElem? (i := 18) (by decide +kernel))
theorem zm331 : Cond.code yX12_among cX12_among 3 (some .int) ∈ wsL_law := inl_wsL_law_r14 _ (List.mem_of_getElem? (i := 19) (by decide +kernel))
theorem zm332 : Cond.methodLink RL 23 yX11_way ∈ wsL_law := inl_wsL_law_r14 _ (List.mem_of_getElem? (i := 20) (by decide +kernel))
theorem zm333 : Cond.instanceMethod yX11_way ∈ wsL_law := inl_wsL_law_r14 _ (List.mem_of_getElem? (i := 21) (by decide +kernel))
theorem zm334 : Cond.selects RX11 yX11_way yX11_way ∈ wsL_law := inl_wsL_law_r14 _ (List.mem_of_getElem? (i := 22) (by decide +kernel))
theorem zm335 : Cond.code yX11_way cX11_way 5 (some .int) ∈ wsL_law := inl_wsL_law_r14 _ (List.mem_of_getElem? (i := 23) (by decide +kernel))
theorem zm336 : Cond.methodLink RX11 60 yX11_isDigit ∈ wsL_law := inl_wsL_law_r15 _ (List.mem_of_getElem? (i := 0) (by decide +kernel))
theorem zm337 : Cond.static yX11_isDigit ∈ wsL_law := inl_wsL_law_r15 _ (List.mem_of_getElem? (i := 1) (by decide +kernel))
theorem zm338 : Cond.code yX11_isDigit cX11_isDigit 1 (some .boolean) ∈ wsL_law := inl_wsL_law_r15 _ (List.mem_of_getElem? (i := 2) (by decide +kernel))
theorem zm339 : Cond.methodLink RX11 63 yX2_wayCount ∈ wsL_law := inl_wsL_law_r15 _ (List.mem_of_getElem? (i := 3) (by decide +kernel))
theorem zm340 : Cond.instanceMethod yX2_wayCount ∈ wsL_law := inl_wsL_law_r15 _ (List.mem_of_getElem? (i := 4) (by decide +kernel))
theorem zm341 : Cond.selects RX2 yX2_wayCount yX2_wayCount ∈ wsL_law := inl_wsL_law_r15 _ (List.mem_of_getElem? (i := 5) (by decide +kernel))
theorem zm342 : Cond.code yX2_wayCount cX2_wayCount 1 (some .int) ∈ wsL_law := inl_wsL_law_r15 _ (List.mem_of_getElem? (i := 6) (by decide +kernel))
theorem zm343 : Cond.fieldLink RX2 51 "TwoPens$Desk" "wayCount" "I" ∈ wsL_law := inl_wsL_law_r15 _ (List.mem_of_getElem? (i := 7) (by decide +kernel))
theorem zm344 : Cond.methodLink RX11 66 yX11_made ∈ wsL_law := inl_wsL_law_r15 _ (List.mem_of_getElem? (i := 8) (by decide +kernel))
theorem zm345 : Cond.static yX11_made ∈ wsL_law := inl_wsL_law_r15 _ (List.mem_of_getElem? (i := 9) (by decide +kernel))
theorem zm346 : Cond.code yX11_made cX11_made 4 (some (.object "TwoPens$Line")) ∈ wsL_law := inl_wsL_law_r15 _ (List.mem_of_getElem? (i := 10) (by decide +kernel))
theorem zm347 : Cond.classLink RX11 270 RX10 ∈ wsL_law := inl_wsL_law_r15 _ (List.mem_of_getElem? (i := 11) (by decide +kernel))
theorem zm348 : Cond.instantiable RX10 4 ∈ wsL_law := inl_wsL_law_r15 _ (List.mem_of_getElem? (i := 12) (by decide +kernel))
theorem zm349 : Cond.initialized RX10 ∈ wsL_law := inl_wsL_law_r15 _ (List.mem_of_getElem? (i := 13) (by decide +kernel))
theorem zm350 : Cond.classLink RX11 275 RX0 ∈ wsL_law := inl_wsL_law_r15 _ (List.mem_of_getElem? (i := 14) (by decide +kernel))
theorem zm351 : Cond.instantiable RX0 4 ∈ wsL_law := inl_wsL_law_r15 _ (List.mem_of_getElem? (i := 15) (by decide +kernel))
theorem zm352 : Cond.initialized RX0 ∈ wsL_law := inl_wsL_law_r15 _ (List.mem_of_getElem? (i := 16) (by decide +kernel))
theorem zm353 : Cond.classLink RX11 278 RX3 ∈ wsL_law := inl_wsL_law_r15 _ (List.mem_of_getElem? (i := 17) (by decide +kernel))
theorem zm354 : Cond.instantiable RX3 4 ∈ wsL_law := inl_wsL_law_r15 _ (List.mem_of_getElem? (i := 18) (by decide +kernel))
theorem zm355 : Cond.initialized RX3 ∈ wsL_law := inl_wsL_law_r15 _ (List.mem_of_getElem? (i := 19) (by decide +kernel))
theorem zm356 : Cond.classLink RX11 281 RX9 ∈ wsL_law := inl_wsL_law_r15 _ (List.mem_of_getElem? (i := 20) (by decide +kernel))
theorem zm357 : Cond.instantiable RX9 4 ∈ wsL_law := inl_wsL_law_r15 _ (List.mem_of_getElem? (i := 21) (by decide +kernel))
theorem zm358 : Cond.initialized RX9 ∈ wsL_law := inl_wsL_law_r15 _ (List.mem_of_getElem? (i := 22) (by decide +kernel))
theorem zm359 : Cond.classLink RX11 286 RX1 ∈ wsL_law := inl_wsL_law_r15 _ (List.mem_of_getElem? (i := 23) (by decide +kernel))
theorem zm360 : Cond.instantiable RX1 4 ∈ wsL_law := inl_wsL_law_r16 _ (List.mem_of_getElem? (i := 0) (by decide +kernel))
theorem zm361 : Cond.initialized RX1 ∈ wsL_law := inl_wsL_law_r16 _ (List.mem_of_getElem? (i := 1) (by decide +kernel))
theorem zm362 : Cond.classLink RX11 96 RX7 ∈ wsL_law := inl_wsL_law_r16 _ (List.mem_of_getElem? (i := 2) (by decide +kernel))
theorem zm363 : Cond.instantiable RX7 5 ∈ wsL_law := inl_wsL_law_r16 _ (List.mem_of_getElem? (i := 3) (by decide +kernel))
theorem zm364 : Cond.initialized RX7 ∈ wsL_law := inl_wsL_law_r16 _ (List.mem_of_getElem? (i := 4) (by decide +kernel))
theorem zm365 : Cond.classLink RX11 79 RX4 ∈ wsL_law := inl_wsL_law_r16 _ (List.mem_of_getElem? (i := 5) (by decide +kernel))
theorem zm366 : Cond.instantiable RX4 4 ∈ wsL_law := inl_wsL_law_r16 _ (List.mem_of_getElem? (i := 6) (by decide +kernel))
theorem zm367 : Cond.initialized RX4 ∈ wsL_law := inl_wsL_law_r16 _ (List.mem_of_getElem? (i := 7) (by decide +kernel))
theorem zm368 : Cond.methodLink RX11 272 yX10_init ∈ wsL_law := inl_wsL_law_r16 _ (List.mem_of_getElem? (i := 8) (by decide +kernel))
theorem zm369 : Cond.instanceMethod yX10_init ∈ wsL_law := inl_wsL_law_r16 _ (List.mem_of_getElem? (i := 9) (by decide +kernel))
theorem zm370 : Cond.code yX10_init cX10_init 5 none ∈ wsL_law := inl_wsL_law_r16 _ (List.mem_of_getElem? (i := 10) (by decide +kernel))
theorem zm371 : Cond.methodLink RX10 1 yX4_init ∈ wsL_law := inl_wsL_law_r16 _ (List.mem_of_getElem? (i := 11) (by decide +kernel))
theorem zm372 : Cond.instanceMethod yX4_init ∈ wsL_law := inl_wsL_law_r16 _ (List.mem_of_getElem? (i := 12) (by decide +kernel))
theorem zm373 : Cond.code yX4_init cX4_init 5 none ∈ wsL_law := inl_wsL_law_r16 _ (List.mem_of_getElem? (i := 13) (by decide +kernel))
theorem zm374 : Cond.methodLink RX4 1 objectInit ∈ wsL_law := inl_wsL_law_r16 _ (List.mem_of_getElem? (i := 14) (by decide +kernel))
theorem zm375 : Cond.fieldLink RX4 7 "TwoPens$Line" "kind" "I" ∈ wsL_law := inl_wsL_law_r16 _ (List.mem_of_getElem? (i := 15) (by decide +kernel))
theorem zm376 : Cond.fieldLink RX4 13 "TwoPens$Line" "number" "I" ∈ wsL_law := inl_wsL_law_r16 _ (List.mem_of_getElem? (i := 16) (by decide +kernel))
theorem zm377 : Cond.fieldLink RX4 16 "TwoPens$Line" "v" "I" ∈ wsL_law := inl_wsL_law_r16 _ (List.mem_of_getElem? (i := 17) (by decide +kernel))
theorem zm378 : Cond.fieldLink RX4 19 "TwoPens$Line" "slow" "I" ∈ wsL_law := inl_wsL_law_r16 _ (List.mem_of_getElem? (i := 18) (by decide +kernel))
theorem zm379 : Cond.methodLink RX11 277 yX0_init ∈ wsL_law := inl_wsL_law_r16 _ (List.mem_of_getElem? (i := 19) (by decide +kernel))
theorem zm380 : Cond.instanceMethod yX0_init ∈ wsL_law := inl_wsL_law_r16 _ (List.mem_of_getElem? (i := 20) (by decide +kernel))
theorem zm381 : Cond.code yX0_init cX0_init 5 none ∈ wsL_law := inl_wsL_law_r16 _ (List.mem_of_getElem? (i := 21) (by decide +kernel))
theorem zm382 : Cond.methodLink RX0 1 yX4_init ∈ wsL_law := inl_wsL_law_r16 _ (List.mem_of_getElem? (i := 22) (by decide +kernel))
theorem zm383 : Cond.methodLink RX11 280 yX3_init ∈ wsL_law := inl_wsL_law_r16 _ (List.mem_of_getElem? (i := 23) (by decide +kernel))
theorem zm384 : Cond.instanceMethod yX3_init ∈ wsL_law := inl_wsL_law_r17 _ (List.mem_of_getElem? (i := 0) (by decide +kernel))
theorem zm385 : Cond.code yX3_init cX3_init 5 none ∈ wsL_law := inl_wsL_law_r17 _ (List.mem_of_getElem? (i := 1) (by decide +kernel))
theorem zm386 : Cond.methodLink RX3 1 yX4_init ∈ wsL_law := inl_wsL_law_r17 _ (List.mem_of_getElem? (i := 2) (by decide +kernel))
theorem zm387 : Cond.methodLink RX11 283 yX9_init ∈ wsL_law := inl_wsL_law_r17 _ (List.mem_of_getElem? (i := 3) (by decide +kernel))
theorem zm388 : Cond.instanceMethod yX9_init ∈ wsL_law := inl_wsL_law_r17 _ (List.mem_of_getElem? (i := 4) (by decide +kernel))
theorem zm389 : Cond.code yX9_init cX9_init 4 none ∈ wsL_law := inl_wsL_law_r17 _ (List.mem_of_getElem? (i := 5) (by decide +kernel))
theorem zm390 : Cond.methodLink RX9 1 yX10_init ∈ wsL_law := inl_wsL_law_r17 _ (List.mem_of_getElem? (i := 6) (by decide +kernel))
theorem zm391 : Cond.methodLink RX11 288 yX1_init ∈ wsL_law := inl_wsL_law_r17 _ (List.mem_of_getElem? (i := 7) (by decide +kernel))
theorem zm392 : Cond.instanceMethod yX1_init ∈ wsL_law := inl_wsL_law_r17 _ (List.mem_of_getElem? (i := 8) (by decide +kernel))
theorem zm393 : Cond.code yX1_init cX1_init 4 none ∈ wsL_law := inl_wsL_law_r17 _ (List.mem_of_getElem? (i := 9) (by decide +kernel))
theorem zm394 : Cond.methodLink RX1 1 yX0_init ∈ wsL_law := inl_wsL_law_r17 _ (List.mem_of_getElem? (i := 10) (by decide +kernel))
theorem zm395 : Cond.methodLink RX11 289 yX7_init ∈ wsL_law := inl_wsL_law_r17 _ (List.mem_of_getElem? (i := 11) (by decide +kernel))
theorem zm396 : Cond.instanceMethod yX7_init ∈ wsL_law := inl_wsL_law_r17 _ (List.mem_of_getElem? (i := 12) (by decide +kernel))
theorem zm397 : Cond.code yX7_init cX7_init 5 none ∈ wsL_law := inl_wsL_law_r17 _ (List.mem_of_getElem? (i := 13) (by decide +kernel))
theorem zm398 : Cond.fieldLink RX7 7 "TwoPens$Told" "row" "[I" ∈ wsL_law := inl_wsL_law_r17 _ (List.mem_of_getElem? (i := 14) (by decide +kernel))
theorem zm399 : Cond.methodLink RX7 1 yX3_init ∈ wsL_law := inl_wsL_law_r17 _ (List.mem_of_getElem? (i := 15) (by decide +kernel))
theorem zm400 : Cond.methodLink RX11 292 yX4_init ∈ wsL_law := inl_wsL_law_r17 _ (List.mem_of_getElem? (i := 16) (by decide +kernel))
theorem zm401 : Cond.methodLink RX11 70 yX2_addWay ∈ wsL_law := inl_wsL_law_r17 _ (List.mem_of_getElem? (i := 17) (by decide +kernel))
theorem zm402 : Cond.instanceMethod yX2_addWay ∈ wsL_law := inl_wsL_law_r17 _ (List.mem_of_getElem? (i := 18) (by decide +kernel))
theorem zm403 : Cond.selects RX2 yX2_addWay yX2_addWay ∈ wsL_law := inl_wsL_law_r17 _ (List.mem_of_getElem? (i := 19) (by decide +kernel))
theorem zm404 : Cond.code yX2_addWay cX2_addWay 2 (some .boolean) ∈ wsL_law := inl_wsL_law_r17 _ (List.mem_of_getElem? (i := 20) (by decide +kernel))
theorem zm405 : Cond.methodLink RL 27 yX12_way ∈ wsL_law := inl_wsL_law_r17 _ (List.mem_of_getElem? (i := 21) (by decide +kernel))
theorem zm406 : Cond.instanceMethod yX12_way ∈ wsL_law := inl_wsL_law_r17 _ (List.mem_of_getElem? (i := 22) (by decide +kernel))
theorem zm407 : Cond.selects RX12 yX12_way yX12_way ∈ wsL_law := inl_wsL_law_r17 _ (List.mem_of_getElem? (i := 23) (by decide +kernel))
theorem zm408 : Cond.code yX12_way cX12_way 6 (some .int) ∈ wsL_law := inl_wsL_law_r18 _ (List.mem_of_getElem? (i := 0) (by decide +kernel))
theorem zm409 : Cond.methodLink RL 28 yX11_of ∈ wsL_law := inl_wsL_law_r18 _ (List.mem_of_getElem? (i := 1) (by decide +kernel))
theorem zm410 : Cond.instanceMethod yX11_of ∈ wsL_law := inl_wsL_law_r18 _ (List.mem_of_getElem? (i := 2) (by decide +kernel))
theorem zm411 : Cond.selects RX11 yX11_of yX11_of ∈ wsL_law := inl_wsL_law_r18 _ (List.mem_of_getElem? (i := 3) (by decide +kernel))
theorem zm412 : Cond.code yX11_of cX11_of 4 (some .int) ∈ wsL_law := inl_wsL_law_r18 _ (List.mem_of_getElem? (i := 4) (by decide +kernel))
theorem zm413 : Cond.fieldLink RX11 78 "TwoPens$Line" "kind" "I" ∈ wsL_law := inl_wsL_law_r18 _ (List.mem_of_getElem? (i := 5) (by decide +kernel))
theorem zm414 : Cond.fieldLink RX11 83 "TwoPens$Line" "v" "I" ∈ wsL_law := inl_wsL_law_r18 _ (List.mem_of_getElem? (i := 6) (by decide +kernel))
theorem zm415 : Cond.fieldLink RX11 86 "TwoPens$Line" "slow" "I" ∈ wsL_law := inl_wsL_law_r18 _ (List.mem_of_getElem? (i := 7) (by decide +kernel))
theorem zm416 : Cond.fieldLink RX11 89 "TwoPens$Desk" "sheet" "LTwoPens$Numbers;" ∈ wsL_law := inl_wsL_law_r18 _ (List.mem_of_getElem? (i := 8) (by decide +kernel))
theorem zm417 : Cond.methodLink RX11 74 yX2_wayOf ∈ wsL_law := inl_wsL_law_r18 _ (List.mem_of_getElem? (i := 9) (by decide +kernel))
theorem zm418 : Cond.instanceMethod yX2_wayOf ∈ wsL_law := inl_wsL_law_r18 _ (List.mem_of_getElem? (i := 10) (by decide +kernel))
theorem zm419 : Cond.selects RX2 yX2_wayOf yX2_wayOf ∈ wsL_law := inl_wsL_law_r18 _ (List.mem_of_getElem? (i := 11) (by decide +kernel))
theorem zm420 : Cond.code yX2_wayOf cX2_wayOf 2 (some (.object "TwoPens$Line")) ∈ wsL_law := inl_wsL_law_r18 _ (List.mem_of_getElem? (i := 12) (by decide +kernel))
theorem zm421 : Cond.methodLink RX11 92 yX5_timesOf ∈ wsL_law := inl_wsL_law_r18 _ (List.mem_of_getElem? (i := 13) (by decide +kernel))
theorem zm422 : Cond.instanceMethod yX5_timesOf ∈ wsL_law := inl_wsL_law_r18 _ (List.mem_of_getElem? (i := 14) (by decide +kernel))
theorem zm423 : Cond.selects RX5 yX5_timesOf yX5_timesOf ∈ wsL_law := inl_wsL_law_r18 _ (List.mem_of_getElem? (i := 15) (by decide +kernel))
theorem zm424 : Cond.code yX5_timesOf cX5_timesOf 4 (some .int) ∈ wsL_law := inl_wsL_law_r18 _ (List.mem_of_getElem? (i := 16) (by decide +kernel))
theorem zm425 : Cond.methodLink RX5 23 yX5_get ∈ wsL_law := inl_wsL_law_r18 _ (List.mem_of_getElem? (i := 17) (by decide +kernel))
theorem zm426 : Cond.methodLink RL 32 yX12_of ∈ wsL_law := inl_wsL_law_r18 _ (List.mem_of_getElem? (i := 18) (by decide +kernel))
theorem zm427 : Cond.instanceMethod yX12_of ∈ wsL_law := inl_wsL_law_r18 _ (List.mem_of_getElem? (i := 19) (by decide +kernel))
theorem zm428 : Cond.selects RX12 yX12_of yX12_of ∈ wsL_law := inl_wsL_law_r18 _ (List.mem_of_getElem? (i := 20) (by decide +kernel))
theorem zm429 : Cond.code yX12_of cX12_of 5 (some .int) ∈ wsL_law := inl_wsL_law_r18 _ (List.mem_of_getElem? (i := 21) (by decide +kernel))
theorem zm430 : Cond.methodLink RX12 138 yX12_isWay ∈ wsL_law := inl_wsL_law_r18 _ (List.mem_of_getElem? (i := 22) (by decide +kernel))
theorem zm431 : Cond.instanceMethod yX12_isWay ∈ wsL_law := inl_wsL_law_r18 _ (List.mem_of_getElem? (i := 23) (by decide +kernel))
theorem zm432 : Cond.selects RX12 yX12_isWay yX12_isWay ∈ wsL_law := inl_wsL_law_r19 _ (List.mem_of_getElem? (i := 0) (by decide +kernel))
theorem zm433 : Cond.code yX12_isWay cX12_isWay 2 (some .boolean) ∈ wsL_law := inl_wsL_law_r19 _ (List.mem_of_getElem? (i := 1) (by decide +kernel))
theorem zm434 : Cond.methodLink RL 33 yX11_row ∈ wsL_law := inl_wsL_law_r19 _ (List.mem_of_getElem? (i := 2) (by decide +kernel))
theorem zm435 : Cond.instanceMethod yX11_row ∈ wsL_law := inl_wsL_law_r19 _ (List.mem_of_getElem? (i := 3) (by decide +kernel))
theorem zm436 : Cond.selects RX11 yX11_row yX11_row ∈ wsL_law := inl_wsL_law_r19 _ (List.mem_of_getElem? (i := 4) (by decide +kernel))
theorem zm437 : Cond.code yX11_row cX11_row 6 (some .int) ∈ wsL_law := inl_wsL_law_r19 _ (List.mem_of_getElem? (i := 5) (by decide +kernel))
theorem zm438 : Cond.classLink RX11 96 "TwoPens$Told" ∈ wsL_law := inl_wsL_law_r19 _ (List.mem_of_getElem? (i := 6) (by decide +kernel))
theorem zm439 : Cond.methodLink RX11 98 yX7_withRow ∈ wsL_law := inl_wsL_law_r19 _ (List.mem_of_getElem? (i := 7) (by decide +kernel))
theorem zm440 : Cond.instanceMethod yX7_withRow ∈ wsL_law := inl_wsL_law_r19 _ (List.mem_of_getElem? (i := 8) (by decide +kernel))
theorem zm441 : Cond.selects RX7 yX7_withRow yX7_withRow ∈ wsL_law := inl_wsL_law_r19 _ (List.mem_of_getElem? (i := 9) (by decide +kernel))
theorem zm442 : Cond.code yX7_withRow cX7_withRow 4 (some (.object "TwoPens$Told")) ∈ wsL_law := inl_wsL_law_r19 _ (List.mem_of_getElem? (i := 10) (by decide +kernel))
theorem zm443 : Cond.methodLink RX7 13 ⟨"[I", "clone", "()Ljava/lang/Object;"⟩ ∈ wsL_law := inl_wsL_law_r19 _ (List.mem_of_getElem? (i := 11) (by decide +kernel))
theorem zm444 : Cond.sameMethod "[I" "java/lang/Object" "clone" "()Ljava/lang/Object;" ∈ wsL_law := inl_wsL_law_r19 _ (List.mem_of_getElem? (i := 12) (by decide +kernel))
theorem zm445 : Cond.native ⟨"java/lang/Object", "clone", "()Ljava/lang/Object;"⟩ ∈ wsL_law := inl_wsL_law_r19 _ (List.mem_of_getElem? (i := 13) (by decide +kernel))
theorem zm446 : Cond.instanceMethod ⟨"java/lang/Object", "clone", "()Ljava/lang/Object;"⟩ ∈ wsL_law := inl_wsL_law_r19 _ (List.mem_of_getElem? (i := 14) (by decide +kernel))
theorem zm447 : Cond.selects "[I" ⟨"[I", "clone", "()Ljava/lang/Object;"⟩ ⟨"java/lang/Object", "clone", "()Ljava/lang/Object;"⟩ ∈ wsL_law := inl_wsL_law_r19 _ (List.mem_of_getElem? (i := 15) (by decide +kernel))
theorem zm448 : Cond.classLink RX7 14 "[I" ∈ wsL_law := inl_wsL_law_r19 _ (List.mem_of_getElem? (i := 16) (by decide +kernel))
theorem zm449 : Cond.classLink RX7 8 RX7 ∈ wsL_law := inl_wsL_law_r19 _ (List.mem_of_getElem? (i := 17) (by decide +kernel))
theorem zm450 : Cond.fieldLink RX7 18 "TwoPens$Told" "number" "I" ∈ wsL_law := inl_wsL_law_r19 _ (List.mem_of_getElem? (i := 18) (by decide +kernel))
theorem zm451 : Cond.sameField "TwoPens$Told" "TwoPens$Line" "number" "I" ∈ wsL_law := inl_wsL_law_r19 _ (List.mem_of_getElem? (i := 19) (by decide +kernel))
theorem zm452 : Cond.fieldLink RX7 22 "TwoPens$Told" "v" "I" ∈ wsL_law := inl_wsL_law_r19 _ (List.mem_of_getElem? (i := 20) (by decide +kernel))
theorem zm453 : Cond.sameField "TwoPens$Told" "TwoPens$Line" "v" "I" ∈ wsL_law := inl_wsL_law_r19 _ (List.mem_of_getElem? (i := 21) (by decide +kernel))
theorem zm454 : Cond.fieldLink RX7 25 "TwoPens$Told" "slow" "I" ∈ wsL_law := inl_wsL_law_r19 _ (List.mem_of_getElem? (i := 22) (by decide +kernel))
theorem zm455 : Cond.sameField "TwoPens$Told" "TwoPens$Line" "slow" "I" ∈ wsL_law := inl_wsL_law_r19 _ (List.mem_of_getElem? (i := 23) (by decide +kernel))
theorem zm456 : Cond.methodLink RX7 28 yX7_init ∈ wsL_law := inl_wsL_law_r20 _ (List.mem_of_getElem? (i := 0) (by decide +kernel))
theorem zm457 : Cond.methodLink RX11 102 yX2_putWay ∈ wsL_law := inl_wsL_law_r20 _ (List.mem_of_getElem? (i := 1) (by decide +kernel))
theorem zm458 : Cond.instanceMethod yX2_putWay ∈ wsL_law := inl_wsL_law_r20 _ (List.mem_of_getElem? (i := 2) (by decide +kernel))
theorem zm459 : Cond.selects RX2 yX2_putWay yX2_putWay ∈ wsL_law := inl_wsL_law_r20 _ (List.mem_of_getElem? (i := 3) (by decide +kernel))
theorem zm460 : Cond.code yX2_putWay cX2_putWay 3 none ∈ wsL_law := inl_wsL_law_r20 _ (List.mem_of_getElem? (i := 4) (by decide +kernel))
theorem zm461 : Cond.methodLink RX11 106 yX7_rowAt ∈ wsL_law := inl_wsL_law_r20 _ (List.mem_of_getElem? (i := 5) (by decide +kernel))
theorem zm462 : Cond.instanceMethod yX7_rowAt ∈ wsL_law := inl_wsL_law_r20 _ (List.mem_of_getElem? (i := 6) (by decide +kernel))
theorem zm463 : Cond.selects RX7 yX7_rowAt yX7_rowAt ∈ wsL_law := inl_wsL_law_r20 _ (List.mem_of_getElem? (i := 7) (by decide +kernel))
theorem zm464 : Cond.code yX7_rowAt cX7_rowAt 2 (some .int) ∈ wsL_law := inl_wsL_law_r20 _ (List.mem_of_getElem? (i := 8) (by decide +kernel))
theorem zm465 : Cond.methodLink RL 36 yX12_row ∈ wsL_law := inl_wsL_law_r20 _ (List.mem_of_getElem? (i := 9) (by decide +kernel))
theorem zm466 : Cond.instanceMethod yX12_row ∈ wsL_law := inl_wsL_law_r20 _ (List.mem_of_getElem? (i := 10) (by decide +kernel))
theorem zm467 : Cond.selects RX12 yX12_row yX12_row ∈ wsL_law := inl_wsL_law_r20 _ (List.mem_of_getElem? (i := 11) (by decide +kernel))
theorem zm468 : Cond.code yX12_row cX12_row 5 (some .int) ∈ wsL_law := inl_wsL_law_r20 _ (List.mem_of_getElem? (i := 12) (by decide +kernel))
theorem zm469 : Cond.methodLink RL 37 yX11_write ∈ wsL_law := inl_wsL_law_r20 _ (List.mem_of_getElem? (i := 13) (by decide +kernel))
theorem zm470 : Cond.instanceMethod yX11_write ∈ wsL_law := inl_wsL_law_r20 _ (List.mem_of_getElem? (i := 14) (by decide +kernel))
theorem zm471 : Cond.selects RX11 yX11_write yX11_write ∈ wsL_law := inl_wsL_law_r20 _ (List.mem_of_getElem? (i := 15) (by decide +kernel))
theorem zm472 : Cond.code yX11_write cX11_write 5 (some .int) ∈ wsL_law := inl_wsL_law_r20 _ (List.mem_of_getElem? (i := 16) (by decide +kernel))
theorem zm473 : Cond.fieldLink RX11 112 "TwoPens$Desk" "spent" "I" ∈ wsL_law := inl_wsL_law_r20 _ (List.mem_of_getElem? (i := 17) (by decide +kernel))
theorem zm474 : Cond.fieldLink RX11 119 "TwoPens$Desk" "paid" "I" ∈ wsL_law := inl_wsL_law_r20 _ (List.mem_of_getElem? (i := 18) (by decide +kernel))
theorem zm475 : Cond.methodLink RX11 109 yX11_isLength ∈ wsL_law := inl_wsL_law_r20 _ (List.mem_of_getElem? (i := 19) (by decide +kernel))
theorem zm476 : Cond.static yX11_isLength ∈ wsL_law := inl_wsL_law_r20 _ (List.mem_of_getElem? (i := 20) (by decide +kernel))
theorem zm477 : Cond.code yX11_isLength cX11_isLength 1 (some .boolean) ∈ wsL_law := inl_wsL_law_r20 _ (List.mem_of_getElem? (i := 21) (by decide +kernel))
theorem zm478 : Cond.methodLink RX11 115 yX2_secondsOf ∈ wsL_law := inl_wsL_law_r20 _ (List.mem_of_getElem? (i := 22) (by decide +kernel))
theorem zm479 : Cond.instanceMethod yX2_secondsOf ∈ wsL_law := inl_wsL_law_r20 _ (List.mem_of_getElem? (i := 23) (by decide +kernel))
theorem zm480 : Cond.selects RX2 yX2_secondsOf yX2_secondsOf ∈ wsL_law := inl_wsL_law_r21 _ (List.mem_of_getElem? (i := 0) (by decide +kernel))
theorem zm481 : Cond.code yX2_secondsOf cX2_secondsOf 4 (some .int) ∈ wsL_law := inl_wsL_law_r21 _ (List.mem_of_getElem? (i := 1) (by decide +kernel))
theorem zm482 : Cond.methodLink RX2 68 yX2_wayOf ∈ wsL_law := inl_wsL_law_r21 _ (List.mem_of_getElem? (i := 2) (by decide +kernel))
theorem zm483 : Cond.methodLink RX2 72 ⟨"TwoPens$Line", "seconds", "(I)I"⟩ ∈ wsL_law := inl_wsL_law_r21 _ (List.mem_of_getElem? (i := 3) (by decide +kernel))
theorem zm484 : Cond.sameMethod "TwoPens$Line" "TwoPens$Line" "seconds" "(I)I" ∈ wsL_law := inl_wsL_law_r21 _ (List.mem_of_getElem? (i := 4) (by decide +kernel))
theorem zm485 : Cond.instanceMethod ⟨"TwoPens$Line", "seconds", "(I)I"⟩ ∈ wsL_law := inl_wsL_law_r21 _ (List.mem_of_getElem? (i := 5) (by decide +kernel))
theorem zm486 : Cond.selects RX0 ⟨"TwoPens$Line", "seconds", "(I)I"⟩ yX0_seconds ∈ wsL_law := inl_wsL_law_r21 _ (List.mem_of_getElem? (i := 6) (by decide +kernel))
theorem zm487 : Cond.instanceMethod yX0_seconds ∈ wsL_law := inl_wsL_law_r21 _ (List.mem_of_getElem? (i := 7) (by decide +kernel))
theorem zm488 : Cond.code yX0_seconds cX0_seconds 2 (some .int) ∈ wsL_law := inl_wsL_law_r21 _ (List.mem_of_getElem? (i := 8) (by decide +kernel))
theorem zm489 : Cond.fieldLink RX0 7 "TwoPens$Column" "slow" "I" ∈ wsL_law := inl_wsL_law_r21 _ (List.mem_of_getElem? (i := 9) (by decide +kernel))
theorem zm490 : Cond.sameField "TwoPens$Column" "TwoPens$Line" "slow" "I" ∈ wsL_law := inl_wsL_law_r21 _ (List.mem_of_getElem? (i := 10) (by decide +kernel))
theorem zm491 : Cond.fieldLink RX0 13 "TwoPens$Column" "v" "I" ∈ wsL_law := inl_wsL_law_r21 _ (List.mem_of_getElem? (i := 11) (by decide +kernel))
theorem zm492 : Cond.sameField "TwoPens$Column" "TwoPens$Line" "v" "I" ∈ wsL_law := inl_wsL_law_r21 _ (List.mem_of_getElem? (i := 12) (by decide +kernel))
theorem zm493 : Cond.code yX4_seconds cX4_seconds 4 (some .int) ∈ wsL_law := inl_wsL_law_r21 _ (List.mem_of_getElem? (i := 13) (by decide +kernel))
theorem zm494 : Cond.selects RX1 ⟨"TwoPens$Line", "seconds", "(I)I"⟩ yX1_seconds ∈ wsL_law := inl_wsL_law_r21 _ (List.mem_of_getElem? (i := 14) (by decide +kernel))
theorem zm495 : Cond.instanceMethod yX1_seconds ∈ wsL_law := inl_wsL_law_r21 _ (List.mem_of_getElem? (i := 15) (by decide +kernel))
theorem zm496 : Cond.code yX1_seconds cX1_seconds 2 (some .int) ∈ wsL_law := inl_wsL_law_r21 _ (List.mem_of_getElem? (i := 16) (by decide +kernel))
theorem zm497 : Cond.methodLink RX1 7 yX0_seconds ∈ wsL_law := inl_wsL_law_r21 _ (List.mem_of_getElem? (i := 17) (by decide +kernel))
theorem zm498 : Cond.sameMethod "TwoPens$Column" "TwoPens$Column" "seconds" "(I)I" ∈ wsL_law := inl_wsL_law_r21 _ (List.mem_of_getElem? (i := 18) (by decide +kernel))
theorem zm499 : Cond.superclass RX1 RX0 ∈ wsL_law := inl_wsL_law_r21 _ (List.mem_of_getElem? (i := 19) (by decide +kernel))
theorem zm500 : Cond.selects RX3 ⟨"TwoPens$Line", "seconds", "(I)I"⟩ yX3_seconds ∈ wsL_law := inl_wsL_law_r21 _ (List.mem_of_getElem? (i := 20) (by decide +kernel))
theorem zm501 : Cond.instanceMethod yX3_seconds ∈ wsL_law := inl_wsL_law_r21 _ (List.mem_of_getElem? (i := 21) (by decide +kernel))
theorem zm502 : Cond.code yX3_seconds cX3_seconds 2 (some .int) ∈ wsL_law := inl_wsL_law_r21 _ (List.mem_of_getElem? (i := 22) (by decide +kernel))
theorem zm503 : Cond.methodLink RX2 72 yX4_seconds ∈ wsL_law := inl_wsL_law_r21 _ (List.mem_of_getElem? (i := 23) (by decide +kernel))
theorem zm504 : Cond.instanceMethod yX4_seconds ∈ wsL_law := inl_wsL_law_r22 _ (List.mem_of_getElem? (i := 0) (by decide +kernel))
theorem zm505 : Cond.selects RX4 yX4_seconds yX4_seconds ∈ wsL_law := inl_wsL_law_r22 _ (List.mem_of_getElem? (i := 1) (by decide +kernel))
theorem zm506 : Cond.selects RX7 ⟨"TwoPens$Line", "seconds", "(I)I"⟩ yX7_seconds ∈ wsL_law := inl_wsL_law_r22 _ (List.mem_of_getElem? (i := 2) (by decide +kernel))
theorem zm507 : Cond.instanceMethod yX7_seconds ∈ wsL_law := inl_wsL_law_r22 _ (List.mem_of_getElem? (i := 3) (by decide +kernel))
theorem zm508 : Cond.code yX7_seconds cX7_seconds 2 (some .int) ∈ wsL_law := inl_wsL_law_r22 _ (List.mem_of_getElem? (i := 4) (by decide +kernel))
theorem zm509 : Cond.methodLink RX7 31 yX7_rowAt ∈ wsL_law := inl_wsL_law_r22 _ (List.mem_of_getElem? (i := 5) (by decide +kernel))
theorem zm510 : Cond.selects RX9 ⟨"TwoPens$Line", "seconds", "(I)I"⟩ yX9_seconds ∈ wsL_law := inl_wsL_law_r22 _ (List.mem_of_getElem? (i := 6) (by decide +kernel))
theorem zm511 : Cond.instanceMethod yX9_seconds ∈ wsL_law := inl_wsL_law_r22 _ (List.mem_of_getElem? (i := 7) (by decide +kernel))
theorem zm512 : Cond.code yX9_seconds cX9_seconds 2 (some .int) ∈ wsL_law := inl_wsL_law_r22 _ (List.mem_of_getElem? (i := 8) (by decide +kernel))
theorem zm513 : Cond.fieldLink RX9 7 "TwoPens$Triple" "slow" "I" ∈ wsL_law := inl_wsL_law_r22 _ (List.mem_of_getElem? (i := 9) (by decide +kernel))
theorem zm514 : Cond.sameField "TwoPens$Triple" "TwoPens$Line" "slow" "I" ∈ wsL_law := inl_wsL_law_r22 _ (List.mem_of_getElem? (i := 10) (by decide +kernel))
theorem zm515 : Cond.fieldLink RX9 13 "TwoPens$Triple" "v" "I" ∈ wsL_law := inl_wsL_law_r22 _ (List.mem_of_getElem? (i := 11) (by decide +kernel))
theorem zm516 : Cond.sameField "TwoPens$Triple" "TwoPens$Line" "v" "I" ∈ wsL_law := inl_wsL_law_r22 _ (List.mem_of_getElem? (i := 12) (by decide +kernel))
theorem zm517 : Cond.methodLink RX9 16 yX10_seconds ∈ wsL_law := inl_wsL_law_r22 _ (List.mem_of_getElem? (i := 13) (by decide +kernel))
theorem zm518 : Cond.sameMethod "TwoPens$Twin" "TwoPens$Twin" "seconds" "(I)I" ∈ wsL_law := inl_wsL_law_r22 _ (List.mem_of_getElem? (i := 14) (by decide +kernel))
theorem zm519 : Cond.superclass RX9 RX10 ∈ wsL_law := inl_wsL_law_r22 _ (List.mem_of_getElem? (i := 15) (by decide +kernel))
theorem zm520 : Cond.instanceMethod yX10_seconds ∈ wsL_law := inl_wsL_law_r22 _ (List.mem_of_getElem? (i := 16) (by decide +kernel))
theorem zm521 : Cond.code yX10_seconds cX10_seconds 2 (some .int) ∈ wsL_law := inl_wsL_law_r22 _ (List.mem_of_getElem? (i := 17) (by decide +kernel))
theorem zm522 : Cond.fieldLink RX10 7 "TwoPens$Twin" "slow" "I" ∈ wsL_law := inl_wsL_law_r22 _ (List.mem_of_getElem? (i := 18) (by decide +kernel))
theorem zm523 : Cond.sameField "TwoPens$Twin" "TwoPens$Line" "slow" "I" ∈ wsL_law := inl_wsL_law_r22 _ (List.mem_of_getElem? (i := 19) (by decide +kernel))
theorem zm524 : Cond.fieldLink RX10 13 "TwoPens$Twin" "v" "I" ∈ wsL_law := inl_wsL_law_r22 _ (List.mem_of_getElem? (i := 20) (by decide +kernel))
theorem zm525 : Cond.sameField "TwoPens$Twin" "TwoPens$Line" "v" "I" ∈ wsL_law := inl_wsL_law_r22 _ (List.mem_of_getElem? (i := 21) (by decide +kernel))
theorem zm526 : Cond.selects RX10 ⟨"TwoPens$Line", "seconds", "(I)I"⟩ yX10_seconds ∈ wsL_law := inl_wsL_law_r22 _ (List.mem_of_getElem? (i := 22) (by decide +kernel))
theorem zm527 : Cond.methodLink RX11 122 yX2_penceOf ∈ wsL_law := inl_wsL_law_r22 _ (List.mem_of_getElem? (i := 23) (by decide +kernel))
theorem zm528 : Cond.instanceMethod yX2_penceOf ∈ wsL_law := inl_wsL_law_r23 _ (List.mem_of_getElem? (i := 0) (by decide +kernel))
theorem zm529 : Cond.selects RX2 yX2_penceOf yX2_penceOf ∈ wsL_law := inl_wsL_law_r23 _ (List.mem_of_getElem? (i := 1) (by decide +kernel))
theorem zm530 : Cond.code yX2_penceOf cX2_penceOf 4 (some .int) ∈ wsL_law := inl_wsL_law_r23 _ (List.mem_of_getElem? (i := 2) (by decide +kernel))
theorem zm531 : Cond.methodLink RX2 76 ⟨"TwoPens$Line", "pence", "(I)I"⟩ ∈ wsL_law := inl_wsL_law_r23 _ (List.mem_of_getElem? (i := 3) (by decide +kernel))
theorem zm532 : Cond.sameMethod "TwoPens$Line" "TwoPens$Line" "pence" "(I)I" ∈ wsL_law := inl_wsL_law_r23 _ (List.mem_of_getElem? (i := 4) (by decide +kernel))
theorem zm533 : Cond.selects RX0 ⟨"TwoPens$Line", "pence", "(I)I"⟩ yX4_pence ∈ wsL_law := inl_wsL_law_r23 _ (List.mem_of_getElem? (i := 5) (by decide +kernel))
theorem zm534 : Cond.instanceMethod yX4_pence ∈ wsL_law := inl_wsL_law_r23 _ (List.mem_of_getElem? (i := 6) (by decide +kernel))
theorem zm535 : Cond.code yX4_pence cX4_pence 2 (some .int) ∈ wsL_law := inl_wsL_law_r23 _ (List.mem_of_getElem? (i := 7) (by decide +kernel))
theorem zm536 : Cond.selects RX1 ⟨"TwoPens$Line", "pence", "(I)I"⟩ yX4_pence ∈ wsL_law := inl_wsL_law_r23 _ (List.mem_of_getElem? (i := 8) (by decide +kernel))
theorem zm537 : Cond.instanceMethod ⟨"TwoPens$Line", "pence", "(I)I"⟩ ∈ wsL_law := inl_wsL_law_r23 _ (List.mem_of_getElem? (i := 9) (by decide +kernel))
theorem zm538 : Cond.selects RX3 ⟨"TwoPens$Line", "pence", "(I)I"⟩ yX3_pence ∈ wsL_law := inl_wsL_law_r23 _ (List.mem_of_getElem? (i := 10) (by decide +kernel))
theorem zm539 : Cond.instanceMethod yX3_pence ∈ wsL_law := inl_wsL_law_r23 _ (List.mem_of_getElem? (i := 11) (by decide +kernel))
theorem zm540 : Cond.code yX3_pence cX3_pence 2 (some .int) ∈ wsL_law := inl_wsL_law_r23 _ (List.mem_of_getElem? (i := 12) (by decide +kernel))
theorem zm541 : Cond.fieldLink RX3 7 "TwoPens$Lent" "v" "I" ∈ wsL_law := inl_wsL_law_r23 _ (List.mem_of_getElem? (i := 13) (by decide +kernel))
theorem zm542 : Cond.sameField "TwoPens$Lent" "TwoPens$Line" "v" "I" ∈ wsL_law := inl_wsL_law_r23 _ (List.mem_of_getElem? (i := 14) (by decide +kernel))
theorem zm543 : Cond.methodLink RX2 76 yX4_pence ∈ wsL_law := inl_wsL_law_r23 _ (List.mem_of_getElem? (i := 15) (by decide +kernel))
theorem zm544 : Cond.selects RX4 yX4_pence yX4_pence ∈ wsL_law := inl_wsL_law_r23 _ (List.mem_of_getElem? (i := 16) (by decide +kernel))
theorem zm545 : Cond.selects RX7 ⟨"TwoPens$Line", "pence", "(I)I"⟩ yX3_pence ∈ wsL_law := inl_wsL_law_r23 _ (List.mem_of_getElem? (i := 17) (by decide +kernel))
theorem zm546 : Cond.selects RX9 ⟨"TwoPens$Line", "pence", "(I)I"⟩ yX4_pence ∈ wsL_law := inl_wsL_law_r23 _ (List.mem_of_getElem? (i := 18) (by decide +kernel))
theorem zm547 : Cond.selects RX10 ⟨"TwoPens$Line", "pence", "(I)I"⟩ yX4_pence ∈ wsL_law := inl_wsL_law_r23 _ (List.mem_of_getElem? (i := 19) (by decide +kernel))
theorem zm548 : Cond.methodLink RL 40 yX12_write ∈ wsL_law := inl_wsL_law_r23 _ (List.mem_of_getElem? (i := 20) (by decide +kernel))
theorem zm549 : Cond.instanceMethod yX12_write ∈ wsL_law := inl_wsL_law_r23 _ (List.mem_of_getElem? (i := 21) (by decide +kernel))
theorem zm550 : Cond.selects RX12 yX12_write yX12_write ∈ wsL_law := inl_wsL_law_r23 _ (List.mem_of_getElem? (i := 22) (by decide +kernel))
theorem zm551 : Cond.code yX12_write cX12_write 4 (some .int) ∈ wsL_law := inl_wsL_law_r23 _ (List.mem_of_getElem? (i := 23) (by decide +kernel))
theorem zm552 : Cond.methodLink RX12 142 yX12_secondsOf ∈ wsL_law := inl_wsL_law_r24 _ (List.mem_of_getElem? (i := 0) (by decide +kernel))
theorem zm553 : Cond.instanceMethod yX12_secondsOf ∈ wsL_law := inl_wsL_law_r24 _ (List.mem_of_getElem? (i := 1) (by decide +kernel))
theorem zm554 : Cond.selects RX12 yX12_secondsOf yX12_secondsOf ∈ wsL_law := inl_wsL_law_r24 _ (List.mem_of_getElem? (i := 2) (by decide +kernel))
theorem zm555 : Cond.code yX12_secondsOf cX12_secondsOf 4 (some .int) ∈ wsL_law := inl_wsL_law_r24 _ (List.mem_of_getElem? (i := 3) (by decide +kernel))
theorem zm556 : Cond.methodLink RX12 129 yX12_twins ∈ wsL_law := inl_wsL_law_r24 _ (List.mem_of_getElem? (i := 4) (by decide +kernel))
theorem zm557 : Cond.instanceMethod yX12_twins ∈ wsL_law := inl_wsL_law_r24 _ (List.mem_of_getElem? (i := 5) (by decide +kernel))
theorem zm558 : Cond.selects RX12 yX12_twins yX12_twins ∈ wsL_law := inl_wsL_law_r24 _ (List.mem_of_getElem? (i := 6) (by decide +kernel))
theorem zm559 : Cond.code yX12_twins cX12_twins 3 (some .int) ∈ wsL_law := inl_wsL_law_r24 _ (List.mem_of_getElem? (i := 7) (by decide +kernel))
theorem zm560 : Cond.methodLink RX12 132 yX12_columns ∈ wsL_law := inl_wsL_law_r24 _ (List.mem_of_getElem? (i := 8) (by decide +kernel))
theorem zm561 : Cond.instanceMethod yX12_columns ∈ wsL_law := inl_wsL_law_r24 _ (List.mem_of_getElem? (i := 9) (by decide +kernel))
theorem zm562 : Cond.selects RX12 yX12_columns yX12_columns ∈ wsL_law := inl_wsL_law_r24 _ (List.mem_of_getElem? (i := 10) (by decide +kernel))
theorem zm563 : Cond.code yX12_columns cX12_columns 3 (some .int) ∈ wsL_law := inl_wsL_law_r24 _ (List.mem_of_getElem? (i := 11) (by decide +kernel))
theorem zm564 : Cond.methodLink RX12 135 yX12_byHand ∈ wsL_law := inl_wsL_law_r24 _ (List.mem_of_getElem? (i := 12) (by decide +kernel))
theorem zm565 : Cond.instanceMethod yX12_byHand ∈ wsL_law := inl_wsL_law_r24 _ (List.mem_of_getElem? (i := 13) (by decide +kernel))
theorem zm566 : Cond.selects RX12 yX12_byHand yX12_byHand ∈ wsL_law := inl_wsL_law_r24 _ (List.mem_of_getElem? (i := 14) (by decide +kernel))
theorem zm567 : Cond.code yX12_byHand cX12_byHand 5 (some .int) ∈ wsL_law := inl_wsL_law_r24 _ (List.mem_of_getElem? (i := 15) (by decide +kernel))
theorem zm568 : Cond.methodLink RX12 145 yX12_penceOf ∈ wsL_law := inl_wsL_law_r24 _ (List.mem_of_getElem? (i := 16) (by decide +kernel))
theorem zm569 : Cond.instanceMethod yX12_penceOf ∈ wsL_law := inl_wsL_law_r24 _ (List.mem_of_getElem? (i := 17) (by decide +kernel))
theorem zm570 : Cond.selects RX12 yX12_penceOf yX12_penceOf ∈ wsL_law := inl_wsL_law_r24 _ (List.mem_of_getElem? (i := 18) (by decide +kernel))
theorem zm571 : Cond.code yX12_penceOf cX12_penceOf 3 (some .int) ∈ wsL_law := inl_wsL_law_r24 _ (List.mem_of_getElem? (i := 19) (by decide +kernel))
theorem zm572 : Cond.methodLink RL 41 yX11_tear ∈ wsL_law := inl_wsL_law_r24 _ (List.mem_of_getElem? (i := 20) (by decide +kernel))
theorem zm573 : Cond.instanceMethod yX11_tear ∈ wsL_law := inl_wsL_law_r24 _ (List.mem_of_getElem? (i := 21) (by decide +kernel))
theorem zm574 : Cond.selects RX11 yX11_tear yX11_tear ∈ wsL_law := inl_wsL_law_r24 _ (List.mem_of_getElem? (i := 22) (by decide +kernel))
theorem zm575 : Cond.code yX11_tear cX11_tear 2 (some .int) ∈ wsL_law := inl_wsL_law_r24 _ (List.mem_of_getElem? (i := 23) (by decide +kernel))
theorem zm576 : Cond.fieldLink RX11 125 "TwoPens$Desk" "shown" "LTwoPens$Numbers;" ∈ wsL_law := inl_wsL_law_r25 _ (List.mem_of_getElem? (i := 0) (by decide +kernel))
theorem zm577 : Cond.methodLink RL 44 yX12_tear ∈ wsL_law := inl_wsL_law_r25 _ (List.mem_of_getElem? (i := 1) (by decide +kernel))
theorem zm578 : Cond.instanceMethod yX12_tear ∈ wsL_law := inl_wsL_law_r25 _ (List.mem_of_getElem? (i := 2) (by decide +kernel))
theorem zm579 : Cond.selects RX12 yX12_tear yX12_tear ∈ wsL_law := inl_wsL_law_r25 _ (List.mem_of_getElem? (i := 3) (by decide +kernel))
theorem zm580 : Cond.code yX12_tear cX12_tear 2 (some .int) ∈ wsL_law := inl_wsL_law_r25 _ (List.mem_of_getElem? (i := 4) (by decide +kernel))
theorem zm581 : Cond.methodLink RL 45 yX11_line ∈ wsL_law := inl_wsL_law_r25 _ (List.mem_of_getElem? (i := 5) (by decide +kernel))
theorem zm582 : Cond.instanceMethod yX11_line ∈ wsL_law := inl_wsL_law_r25 _ (List.mem_of_getElem? (i := 6) (by decide +kernel))
theorem zm583 : Cond.selects RX11 yX11_line yX11_line ∈ wsL_law := inl_wsL_law_r25 _ (List.mem_of_getElem? (i := 7) (by decide +kernel))
theorem zm584 : Cond.code yX11_line cX11_line 4 (some .int) ∈ wsL_law := inl_wsL_law_r25 _ (List.mem_of_getElem? (i := 8) (by decide +kernel))
theorem zm585 : Cond.methodLink RX11 128 yX5_hasPlace ∈ wsL_law := inl_wsL_law_r25 _ (List.mem_of_getElem? (i := 9) (by decide +kernel))
theorem zm586 : Cond.instanceMethod yX5_hasPlace ∈ wsL_law := inl_wsL_law_r25 _ (List.mem_of_getElem? (i := 10) (by decide +kernel))
theorem zm587 : Cond.selects RX5 yX5_hasPlace yX5_hasPlace ∈ wsL_law := inl_wsL_law_r25 _ (List.mem_of_getElem? (i := 11) (by decide +kernel))
theorem zm588 : Cond.code yX5_hasPlace cX5_hasPlace 2 (some .boolean) ∈ wsL_law := inl_wsL_law_r25 _ (List.mem_of_getElem? (i := 12) (by decide +kernel))
theorem zm589 : Cond.methodLink RX11 131 yX11_isPart ∈ wsL_law := inl_wsL_law_r25 _ (List.mem_of_getElem? (i := 13) (by decide +kernel))
theorem zm590 : Cond.static yX11_isPart ∈ wsL_law := inl_wsL_law_r25 _ (List.mem_of_getElem? (i := 14) (by decide +kernel))
theorem zm591 : Cond.code yX11_isPart cX11_isPart 1 (some .boolean) ∈ wsL_law := inl_wsL_law_r25 _ (List.mem_of_getElem? (i := 15) (by decide +kernel))
theorem zm592 : Cond.methodLink RX11 134 yX2_signAt ∈ wsL_law := inl_wsL_law_r25 _ (List.mem_of_getElem? (i := 16) (by decide +kernel))
theorem zm593 : Cond.instanceMethod yX2_signAt ∈ wsL_law := inl_wsL_law_r25 _ (List.mem_of_getElem? (i := 17) (by decide +kernel))
theorem zm594 : Cond.selects RX2 yX2_signAt yX2_signAt ∈ wsL_law := inl_wsL_law_r25 _ (List.mem_of_getElem? (i := 18) (by decide +kernel))
theorem zm595 : Cond.code yX2_signAt cX2_signAt 2 (some .int) ∈ wsL_law := inl_wsL_law_r25 _ (List.mem_of_getElem? (i := 19) (by decide +kernel))
theorem zm596 : Cond.methodLink RX2 98 yX2_signIf ∈ wsL_law := inl_wsL_law_r25 _ (List.mem_of_getElem? (i := 20) (by decide +kernel))
theorem zm597 : Cond.instanceMethod yX2_signIf ∈ wsL_law := inl_wsL_law_r25 _ (List.mem_of_getElem? (i := 21) (by decide +kernel))
theorem zm598 : Cond.selects RX2 yX2_signIf yX2_signIf ∈ wsL_law := inl_wsL_law_r25 _ (List.mem_of_getElem? (i := 22) (by decide +kernel))
theorem zm599 : Cond.code yX2_signIf cX2_signIf 6 (some .int) ∈ wsL_law := inl_wsL_law_r25 _ (List.mem_of_getElem? (i := 23) (by decide +kernel))
theorem zm600 : Cond.fieldLink RX2 105 "TwoPens$Line" "number" "I" ∈ wsL_law := inl_wsL_law_r26 _ (List.mem_of_getElem? (i := 0) (by decide +kernel))
theorem zm601 : Cond.methodLink RX2 102 yX2_numberIf ∈ wsL_law := inl_wsL_law_r26 _ (List.mem_of_getElem? (i := 1) (by decide +kernel))
theorem zm602 : Cond.instanceMethod yX2_numberIf ∈ wsL_law := inl_wsL_law_r26 _ (List.mem_of_getElem? (i := 2) (by decide +kernel))
theorem zm603 : Cond.selects RX2 yX2_numberIf yX2_numberIf ∈ wsL_law := inl_wsL_law_r26 _ (List.mem_of_getElem? (i := 3) (by decide +kernel))
theorem zm604 : Cond.code yX2_numberIf cX2_numberIf 4 (some .int) ∈ wsL_law := inl_wsL_law_r26 _ (List.mem_of_getElem? (i := 4) (by decide +kernel))
theorem zm605 : Cond.methodLink RX2 95 yX5_get ∈ wsL_law := inl_wsL_law_r26 _ (List.mem_of_getElem? (i := 5) (by decide +kernel))
theorem zm606 : Cond.methodLink RX2 108 yX6_signOf ∈ wsL_law := inl_wsL_law_r26 _ (List.mem_of_getElem? (i := 6) (by decide +kernel))
theorem zm607 : Cond.instanceMethod yX6_signOf ∈ wsL_law := inl_wsL_law_r26 _ (List.mem_of_getElem? (i := 7) (by decide +kernel))
theorem zm608 : Cond.selects RX6 yX6_signOf yX6_signOf ∈ wsL_law := inl_wsL_law_r26 _ (List.mem_of_getElem? (i := 8) (by decide +kernel))
theorem zm609 : Cond.code yX6_signOf cX6_signOf 9 (some .int) ∈ wsL_law := inl_wsL_law_r26 _ (List.mem_of_getElem? (i := 9) (by decide +kernel))
theorem zm610 : Cond.methodLink RX6 121 yX6_holds ∈ wsL_law := inl_wsL_law_r26 _ (List.mem_of_getElem? (i := 10) (by decide +kernel))
theorem zm611 : Cond.static yX6_holds ∈ wsL_law := inl_wsL_law_r26 _ (List.mem_of_getElem? (i := 11) (by decide +kernel))
theorem zm612 : Cond.code yX6_holds cX6_holds 6 (some .boolean) ∈ wsL_law := inl_wsL_law_r26 _ (List.mem_of_getElem? (i := 12) (by decide +kernel))
theorem zm613 : Cond.methodLink RX6 125 yX6_valueAsked ∈ wsL_law := inl_wsL_law_r26 _ (List.mem_of_getElem? (i := 13) (by decide +kernel))
theorem zm614 : Cond.static yX6_valueAsked ∈ wsL_law := inl_wsL_law_r26 _ (List.mem_of_getElem? (i := 14) (by decide +kernel))
theorem zm615 : Cond.code yX6_valueAsked cX6_valueAsked 4 (some .int) ∈ wsL_law := inl_wsL_law_r26 _ (List.mem_of_getElem? (i := 15) (by decide +kernel))
theorem zm616 : Cond.fieldLink RX6 129 "TwoPens$Line" "number" "I" ∈ wsL_law := inl_wsL_law_r26 _ (List.mem_of_getElem? (i := 16) (by decide +kernel))
theorem zm617 : Cond.fieldLink RX6 134 "TwoPens$Line" "kind" "I" ∈ wsL_law := inl_wsL_law_r26 _ (List.mem_of_getElem? (i := 17) (by decide +kernel))
theorem zm618 : Cond.fieldLink RX6 137 "TwoPens$Line" "v" "I" ∈ wsL_law := inl_wsL_law_r26 _ (List.mem_of_getElem? (i := 18) (by decide +kernel))
theorem zm619 : Cond.methodLink RX11 137 yX5_get ∈ wsL_law := inl_wsL_law_r26 _ (List.mem_of_getElem? (i := 19) (by decide +kernel))
theorem zm620 : Cond.methodLink RL 48 yX12_line ∈ wsL_law := inl_wsL_law_r26 _ (List.mem_of_getElem? (i := 20) (by decide +kernel))
theorem zm621 : Cond.instanceMethod yX12_line ∈ wsL_law := inl_wsL_law_r26 _ (List.mem_of_getElem? (i := 21) (by decide +kernel))
theorem zm622 : Cond.selects RX12 yX12_line yX12_line ∈ wsL_law := inl_wsL_law_r26 _ (List.mem_of_getElem? (i := 22) (by decide +kernel))
theorem zm623 : Cond.code yX12_line cX12_line 3 (some .int) ∈ wsL_law := inl_wsL_law_r26 _ (List.mem_of_getElem? (i := 23) (by decide +kernel))
theorem zm624 : Cond.methodLink RX12 148 yX12_signAt ∈ wsL_law := inl_wsL_law_r27 _ (List.mem_of_getElem? (i := 0) (by decide +kernel))
theorem zm625 : Cond.instanceMethod yX12_signAt ∈ wsL_law := inl_wsL_law_r27 _ (List.mem_of_getElem? (i := 1) (by decide +kernel))
theorem zm626 : Cond.selects RX12 yX12_signAt yX12_signAt ∈ wsL_law := inl_wsL_law_r27 _ (List.mem_of_getElem? (i := 2) (by decide +kernel))
theorem zm627 : Cond.code yX12_signAt cX12_signAt 12 (some .int) ∈ wsL_law := inl_wsL_law_r27 _ (List.mem_of_getElem? (i := 3) (by decide +kernel))
theorem zm628 : Cond.methodLink RX12 125 yX12_wayAt ∈ wsL_law := inl_wsL_law_r27 _ (List.mem_of_getElem? (i := 4) (by decide +kernel))
theorem zm629 : Cond.instanceMethod yX12_wayAt ∈ wsL_law := inl_wsL_law_r27 _ (List.mem_of_getElem? (i := 5) (by decide +kernel))
theorem zm630 : Cond.selects RX12 yX12_wayAt yX12_wayAt ∈ wsL_law := inl_wsL_law_r27 _ (List.mem_of_getElem? (i := 6) (by decide +kernel))
theorem zm631 : Cond.code yX12_wayAt cX12_wayAt 2 (some .int) ∈ wsL_law := inl_wsL_law_r27 _ (List.mem_of_getElem? (i := 7) (by decide +kernel))
theorem zm632 : Cond.methodLink RX12 117 yX12_tellsOf ∈ wsL_law := inl_wsL_law_r27 _ (List.mem_of_getElem? (i := 8) (by decide +kernel))
theorem zm633 : Cond.instanceMethod yX12_tellsOf ∈ wsL_law := inl_wsL_law_r27 _ (List.mem_of_getElem? (i := 9) (by decide +kernel))
theorem zm634 : Cond.selects RX12 yX12_tellsOf yX12_tellsOf ∈ wsL_law := inl_wsL_law_r27 _ (List.mem_of_getElem? (i := 10) (by decide +kernel))
theorem zm635 : Cond.code yX12_tellsOf cX12_tellsOf 3 (some .int) ∈ wsL_law := inl_wsL_law_r27 _ (List.mem_of_getElem? (i := 11) (by decide +kernel))
theorem zm636 : Cond.methodLink RL 49 yX11_told ∈ wsL_law := inl_wsL_law_r27 _ (List.mem_of_getElem? (i := 12) (by decide +kernel))
theorem zm637 : Cond.instanceMethod yX11_told ∈ wsL_law := inl_wsL_law_r27 _ (List.mem_of_getElem? (i := 13) (by decide +kernel))
theorem zm638 : Cond.selects RX11 yX11_told yX11_told ∈ wsL_law := inl_wsL_law_r27 _ (List.mem_of_getElem? (i := 14) (by decide +kernel))
theorem zm639 : Cond.code yX11_told cX11_told 2 (some .int) ∈ wsL_law := inl_wsL_law_r27 _ (List.mem_of_getElem? (i := 15) (by decide +kernel))
theorem zm640 : Cond.fieldLink RX11 140 "TwoPens$School" "want" "I" ∈ wsL_law := inl_wsL_law_r27 _ (List.mem_of_getElem? (i := 16) (by decide +kernel))
theorem zm641 : Cond.fieldLink RX11 143 "TwoPens$School" "look" "I" ∈ wsL_law := inl_wsL_law_r27 _ (List.mem_of_getElem? (i := 17) (by decide +kernel))
theorem zm642 : Cond.fieldLink RX11 146 "TwoPens$School" "count" "I" ∈ wsL_law := inl_wsL_law_r27 _ (List.mem_of_getElem? (i := 18) (by decide +kernel))
theorem zm643 : Cond.methodLink RX11 149 yX2_placeCount ∈ wsL_law := inl_wsL_law_r27 _ (List.mem_of_getElem? (i := 19) (by decide +kernel))
theorem zm644 : Cond.instanceMethod yX2_placeCount ∈ wsL_law := inl_wsL_law_r27 _ (List.mem_of_getElem? (i := 20) (by decide +kernel))
theorem zm645 : Cond.selects RX2 yX2_placeCount yX2_placeCount ∈ wsL_law := inl_wsL_law_r27 _ (List.mem_of_getElem? (i := 21) (by decide +kernel))
theorem zm646 : Cond.code yX2_placeCount cX2_placeCount 1 (some .int) ∈ wsL_law := inl_wsL_law_r27 _ (List.mem_of_getElem? (i := 22) (by decide +kernel))
theorem zm647 : Cond.fieldLink RX2 83 "TwoPens$School" "look" "I" ∈ wsL_law := inl_wsL_law_r27 _ (List.mem_of_getElem? (i := 23) (by decide +kernel))
theorem zm648 : Cond.methodLink RX2 86 Lib.Math.min.name ∈ wsL_law := inl_wsL_law_r28 _ (List.mem_of_getElem? (i := 0) (by decide +kernel))
theorem zm649 : Cond.fieldLink RX2 92 "TwoPens$School" "want" "I" ∈ wsL_law := inl_wsL_law_r28 _ (List.mem_of_getElem? (i := 1) (by decide +kernel))
theorem zm650 : Cond.methodLink RX2 79 yX5_size ∈ wsL_law := inl_wsL_law_r28 _ (List.mem_of_getElem? (i := 2) (by decide +kernel))
theorem zm651 : Cond.methodLink RX11 152 yX2_placeAt ∈ wsL_law := inl_wsL_law_r28 _ (List.mem_of_getElem? (i := 3) (by decide +kernel))
theorem zm652 : Cond.instanceMethod yX2_placeAt ∈ wsL_law := inl_wsL_law_r28 _ (List.mem_of_getElem? (i := 4) (by decide +kernel))
theorem zm653 : Cond.selects RX2 yX2_placeAt yX2_placeAt ∈ wsL_law := inl_wsL_law_r28 _ (List.mem_of_getElem? (i := 5) (by decide +kernel))
theorem zm654 : Cond.code yX2_placeAt cX2_placeAt 2 (some .int) ∈ wsL_law := inl_wsL_law_r28 _ (List.mem_of_getElem? (i := 6) (by decide +kernel))
theorem zm655 : Cond.methodLink RL 52 yX12_told ∈ wsL_law := inl_wsL_law_r28 _ (List.mem_of_getElem? (i := 7) (by decide +kernel))
theorem zm656 : Cond.instanceMethod yX12_told ∈ wsL_law := inl_wsL_law_r28 _ (List.mem_of_getElem? (i := 8) (by decide +kernel))
theorem zm657 : Cond.selects RX12 yX12_told yX12_told ∈ wsL_law := inl_wsL_law_r28 _ (List.mem_of_getElem? (i := 9) (by decide +kernel))
theorem zm658 : Cond.code yX12_told cX12_told 2 (some .int) ∈ wsL_law := inl_wsL_law_r28 _ (List.mem_of_getElem? (i := 10) (by decide +kernel))
theorem zm659 : Cond.fieldLink RX12 151 "TwoPensModel" "placeMany" "I" ∈ wsL_law := inl_wsL_law_r28 _ (List.mem_of_getElem? (i := 11) (by decide +kernel))
theorem zm660 : Cond.methodLink RX12 163 yX12_looksForPlaces ∈ wsL_law := inl_wsL_law_r28 _ (List.mem_of_getElem? (i := 12) (by decide +kernel))
theorem zm661 : Cond.instanceMethod yX12_looksForPlaces ∈ wsL_law := inl_wsL_law_r28 _ (List.mem_of_getElem? (i := 13) (by decide +kernel))
theorem zm662 : Cond.selects RX12 yX12_looksForPlaces yX12_looksForPlaces ∈ wsL_law := inl_wsL_law_r28 _ (List.mem_of_getElem? (i := 14) (by decide +kernel))
theorem zm663 : Cond.code yX12_looksForPlaces cX12_looksForPlaces 5 none ∈ wsL_law := inl_wsL_law_r28 _ (List.mem_of_getElem? (i := 15) (by decide +kernel))
theorem zm664 : Cond.methodLink RX12 154 yX12_wantNow ∈ wsL_law := inl_wsL_law_r28 _ (List.mem_of_getElem? (i := 16) (by decide +kernel))
theorem zm665 : Cond.instanceMethod yX12_wantNow ∈ wsL_law := inl_wsL_law_r28 _ (List.mem_of_getElem? (i := 17) (by decide +kernel))
theorem zm666 : Cond.selects RX12 yX12_wantNow yX12_wantNow ∈ wsL_law := inl_wsL_law_r28 _ (List.mem_of_getElem? (i := 18) (by decide +kernel))
theorem zm667 : Cond.code yX12_wantNow cX12_wantNow 1 (some .int) ∈ wsL_law := inl_wsL_law_r28 _ (List.mem_of_getElem? (i := 19) (by decide +kernel))
theorem zm668 : Cond.methodLink RX12 121 yX12_within ∈ wsL_law := inl_wsL_law_r28 _ (List.mem_of_getElem? (i := 20) (by decide +kernel))
theorem zm669 : Cond.static yX12_within ∈ wsL_law := inl_wsL_law_r28 _ (List.mem_of_getElem? (i := 21) (by decide +kernel))
theorem zm670 : Cond.code yX12_within cX12_within 3 (some .int) ∈ wsL_law := inl_wsL_law_r28 _ (List.mem_of_getElem? (i := 22) (by decide +kernel))
theorem zm671 : Cond.methodLink RX12 157 yX12_lookNow ∈ wsL_law := inl_wsL_law_r28 _ (List.mem_of_getElem? (i := 23) (by decide +kernel))
theorem zm672 : Cond.instanceMethod yX12_lookNow ∈ wsL_law := inl_wsL_law_r29 _ (List.mem_of_getElem? (i := 0) (by decide +kernel))
theorem zm673 : Cond.selects RX12 yX12_lookNow yX12_lookNow ∈ wsL_law := inl_wsL_law_r29 _ (List.mem_of_getElem? (i := 1) (by decide +kernel))
theorem zm674 : Cond.code yX12_lookNow cX12_lookNow 1 (some .int) ∈ wsL_law := inl_wsL_law_r29 _ (List.mem_of_getElem? (i := 2) (by decide +kernel))
theorem zm675 : Cond.methodLink RX12 160 yX12_isPlace ∈ wsL_law := inl_wsL_law_r29 _ (List.mem_of_getElem? (i := 3) (by decide +kernel))
theorem zm676 : Cond.instanceMethod yX12_isPlace ∈ wsL_law := inl_wsL_law_r29 _ (List.mem_of_getElem? (i := 4) (by decide +kernel))
theorem zm677 : Cond.selects RX12 yX12_isPlace yX12_isPlace ∈ wsL_law := inl_wsL_law_r29 _ (List.mem_of_getElem? (i := 5) (by decide +kernel))
theorem zm678 : Cond.code yX12_isPlace cX12_isPlace 4 (some .boolean) ∈ wsL_law := inl_wsL_law_r29 _ (List.mem_of_getElem? (i := 6) (by decide +kernel))
theorem zm679 : Cond.methodLink RX12 166 yX12_missing ∈ wsL_law := inl_wsL_law_r29 _ (List.mem_of_getElem? (i := 7) (by decide +kernel))
theorem zm680 : Cond.instanceMethod yX12_missing ∈ wsL_law := inl_wsL_law_r29 _ (List.mem_of_getElem? (i := 8) (by decide +kernel))
theorem zm681 : Cond.selects RX12 yX12_missing yX12_missing ∈ wsL_law := inl_wsL_law_r29 _ (List.mem_of_getElem? (i := 9) (by decide +kernel))
theorem zm682 : Cond.code yX12_missing cX12_missing 3 (some .int) ∈ wsL_law := inl_wsL_law_r29 _ (List.mem_of_getElem? (i := 10) (by decide +kernel))
theorem zm683 : Cond.methodLink RL 53 yX11_cost ∈ wsL_law := inl_wsL_law_r29 _ (List.mem_of_getElem? (i := 11) (by decide +kernel))
theorem zm684 : Cond.instanceMethod yX11_cost ∈ wsL_law := inl_wsL_law_r29 _ (List.mem_of_getElem? (i := 12) (by decide +kernel))
theorem zm685 : Cond.selects RX11 yX11_cost yX11_cost ∈ wsL_law := inl_wsL_law_r29 _ (List.mem_of_getElem? (i := 13) (by decide +kernel))
theorem zm686 : Cond.code yX11_cost cX11_cost 4 (some .int) ∈ wsL_law := inl_wsL_law_r29 _ (List.mem_of_getElem? (i := 14) (by decide +kernel))
theorem zm687 : Cond.methodLink RL 56 yX12_cost ∈ wsL_law := inl_wsL_law_r29 _ (List.mem_of_getElem? (i := 15) (by decide +kernel))
theorem zm688 : Cond.instanceMethod yX12_cost ∈ wsL_law := inl_wsL_law_r29 _ (List.mem_of_getElem? (i := 16) (by decide +kernel))
theorem zm689 : Cond.selects RX12 yX12_cost yX12_cost ∈ wsL_law := inl_wsL_law_r29 _ (List.mem_of_getElem? (i := 17) (by decide +kernel))
theorem zm690 : Cond.code yX12_cost cX12_cost 4 (some .int) ∈ wsL_law := inl_wsL_law_r29 _ (List.mem_of_getElem? (i := 18) (by decide +kernel))
theorem zm691 : Cond.methodLink RL 57 yX11_looks ∈ wsL_law := inl_wsL_law_r29 _ (List.mem_of_getElem? (i := 19) (by decide +kernel))
theorem zm692 : Cond.instanceMethod yX11_looks ∈ wsL_law := inl_wsL_law_r29 _ (List.mem_of_getElem? (i := 20) (by decide +kernel))
theorem zm693 : Cond.selects RX11 yX11_looks yX11_looks ∈ wsL_law := inl_wsL_law_r29 _ (List.mem_of_getElem? (i := 21) (by decide +kernel))
theorem zm694 : Cond.code yX11_looks cX11_looks 2 (some .int) ∈ wsL_law := inl_wsL_law_r29 _ (List.mem_of_getElem? (i := 22) (by decide +kernel))
theorem zm695 : Cond.fieldLink RX11 155 "TwoPens$Desk" "places" "LTwoPens$Numbers;" ∈ wsL_law := inl_wsL_law_r29 _ (List.mem_of_getElem? (i := 23) (by decide +kernel))
theorem zm696 : Cond.methodLink RX11 158 yX11_isPlace ∈ wsL_law := inl_wsL_law_r30 _ (List.mem_of_getElem? (i := 0) (by decide +kernel))
theorem zm697 : Cond.static yX11_isPlace ∈ wsL_law := inl_wsL_law_r30 _ (List.mem_of_getElem? (i := 1) (by decide +kernel))
theorem zm698 : Cond.code yX11_isPlace cX11_isPlace 1 (some .boolean) ∈ wsL_law := inl_wsL_law_r30 _ (List.mem_of_getElem? (i := 2) (by decide +kernel))
theorem zm699 : Cond.methodLink RL 60 yX12_looks ∈ wsL_law := inl_wsL_law_r30 _ (List.mem_of_getElem? (i := 3) (by decide +kernel))
theorem zm700 : Cond.instanceMethod yX12_looks ∈ wsL_law := inl_wsL_law_r30 _ (List.mem_of_getElem? (i := 4) (by decide +kernel))
theorem zm701 : Cond.selects RX12 yX12_looks yX12_looks ∈ wsL_law := inl_wsL_law_r30 _ (List.mem_of_getElem? (i := 5) (by decide +kernel))
theorem zm702 : Cond.code yX12_looks cX12_looks 3 (some .int) ∈ wsL_law := inl_wsL_law_r30 _ (List.mem_of_getElem? (i := 6) (by decide +kernel))
theorem zm703 : Cond.methodLink RL 61 yX11_safe ∈ wsL_law := inl_wsL_law_r30 _ (List.mem_of_getElem? (i := 7) (by decide +kernel))
theorem zm704 : Cond.instanceMethod yX11_safe ∈ wsL_law := inl_wsL_law_r30 _ (List.mem_of_getElem? (i := 8) (by decide +kernel))
theorem zm705 : Cond.selects RX11 yX11_safe yX11_safe ∈ wsL_law := inl_wsL_law_r30 _ (List.mem_of_getElem? (i := 9) (by decide +kernel))
theorem zm706 : Cond.code yX11_safe cX11_safe 2 (some .long) ∈ wsL_law := inl_wsL_law_r30 _ (List.mem_of_getElem? (i := 10) (by decide +kernel))
theorem zm707 : Cond.methodLink RX11 161 yX2_unseenNow ∈ wsL_law := inl_wsL_law_r30 _ (List.mem_of_getElem? (i := 11) (by decide +kernel))
theorem zm708 : Cond.instanceMethod yX2_unseenNow ∈ wsL_law := inl_wsL_law_r30 _ (List.mem_of_getElem? (i := 12) (by decide +kernel))
theorem zm709 : Cond.selects RX2 yX2_unseenNow yX2_unseenNow ∈ wsL_law := inl_wsL_law_r30 _ (List.mem_of_getElem? (i := 13) (by decide +kernel))
theorem zm710 : Cond.code yX2_unseenNow cX2_unseenNow 1 (some .long) ∈ wsL_law := inl_wsL_law_r30 _ (List.mem_of_getElem? (i := 14) (by decide +kernel))
theorem zm711 : Cond.methodLink RX2 112 yX2_unseenIf ∈ wsL_law := inl_wsL_law_r30 _ (List.mem_of_getElem? (i := 15) (by decide +kernel))
theorem zm712 : Cond.instanceMethod yX2_unseenIf ∈ wsL_law := inl_wsL_law_r30 _ (List.mem_of_getElem? (i := 16) (by decide +kernel))
theorem zm713 : Cond.selects RX2 yX2_unseenIf yX2_unseenIf ∈ wsL_law := inl_wsL_law_r30 _ (List.mem_of_getElem? (i := 17) (by decide +kernel))
theorem zm714 : Cond.code yX2_unseenIf cX2_unseenIf 6 (some .long) ∈ wsL_law := inl_wsL_law_r30 _ (List.mem_of_getElem? (i := 18) (by decide +kernel))
theorem zm715 : Cond.fieldLink RX2 116 "TwoPens$School" "count" "I" ∈ wsL_law := inl_wsL_law_r30 _ (List.mem_of_getElem? (i := 19) (by decide +kernel))
theorem zm716 : Cond.methodLink RX2 119 yX2_writtenIf ∈ wsL_law := inl_wsL_law_r30 _ (List.mem_of_getElem? (i := 20) (by decide +kernel))
theorem zm717 : Cond.instanceMethod yX2_writtenIf ∈ wsL_law := inl_wsL_law_r30 _ (List.mem_of_getElem? (i := 21) (by decide +kernel))
theorem zm718 : Cond.selects RX2 yX2_writtenIf yX2_writtenIf ∈ wsL_law := inl_wsL_law_r30 _ (List.mem_of_getElem? (i := 22) (by decide +kernel))
theorem zm719 : Cond.code yX2_writtenIf cX2_writtenIf 5 (some .int) ∈ wsL_law := inl_wsL_law_r30 _ (List.mem_of_getElem? (i := 23) (by decide +kernel))
theorem zm720 : Cond.methodLink RX2 122 yX2_placeCount ∈ wsL_law := inl_wsL_law_r31 _ (List.mem_of_getElem? (i := 0) (by decide +kernel))
theorem zm721 : Cond.methodLink RX2 125 yX2_placeAt ∈ wsL_law := inl_wsL_law_r31 _ (List.mem_of_getElem? (i := 1) (by decide +kernel))
theorem zm722 : Cond.methodLink RX11 165 yX11_hundreds ∈ wsL_law := inl_wsL_law_r31 _ (List.mem_of_getElem? (i := 2) (by decide +kernel))
theorem zm723 : Cond.static yX11_hundreds ∈ wsL_law := inl_wsL_law_r31 _ (List.mem_of_getElem? (i := 3) (by decide +kernel))
theorem zm724 : Cond.code yX11_hundreds cX11_hundreds 4 (some .long) ∈ wsL_law := inl_wsL_law_r31 _ (List.mem_of_getElem? (i := 4) (by decide +kernel))
theorem zm725 : Cond.constantLong RX11 257 (100) ∈ wsL_law := inl_wsL_law_r31 _ (List.mem_of_getElem? (i := 5) (by decide +kernel))
theorem zm726 : Cond.methodLink RX11 169 yX11_lowest ∈ wsL_law := inl_wsL_law_r31 _ (List.mem_of_getElem? (i := 6) (by decide +kernel))
theorem zm727 : Cond.static yX11_lowest ∈ wsL_law := inl_wsL_law_r31 _ (List.mem_of_getElem? (i := 7) (by decide +kernel))
theorem zm728 : Cond.code yX11_lowest cX11_lowest 9 (some .long) ∈ wsL_law := inl_wsL_law_r31 _ (List.mem_of_getElem? (i := 8) (by decide +kernel))
theorem zm729 : Cond.constantLong RX11 175 (-9223372036854775808) ∈ wsL_law := inl_wsL_law_r31 _ (List.mem_of_getElem? (i := 9) (by decide +kernel))
theorem zm730 : Cond.methodLink RX11 259 Lib.MathLoose.abs_long.x ∈ wsL_law := inl_wsL_law_r31 _ (List.mem_of_getElem? (i := 10) (by decide +kernel))
theorem zm731 : Cond.static Lib.MathLoose.abs_long.x ∈ wsL_law := inl_wsL_law_r31 _ (List.mem_of_getElem? (i := 11) (by decide +kernel))
theorem zm732 : Cond.code Lib.MathLoose.abs_long.x Lib.MathLoose.abs_long.code 2 (some .long) ∈ wsL_law := inl_wsL_law_r31 _ (List.mem_of_getElem? (i := 12) (by decide +kernel))
theorem zm733 : Cond.methodLink RX11 263 yX11_common ∈ wsL_law := inl_wsL_law_r31 _ (List.mem_of_getElem? (i := 13) (by decide +kernel))
theorem zm734 : Cond.static yX11_common ∈ wsL_law := inl_wsL_law_r31 _ (List.mem_of_getElem? (i := 14) (by decide +kernel))
theorem zm735 : Cond.code yX11_common cX11_common 7 (some .long) ∈ wsL_law := inl_wsL_law_r31 _ (List.mem_of_getElem? (i := 15) (by decide +kernel))
theorem zm736 : Cond.methodLink RL 65 yX12_safe ∈ wsL_law := inl_wsL_law_r31 _ (List.mem_of_getElem? (i := 16) (by decide +kernel))
theorem zm737 : Cond.instanceMethod yX12_safe ∈ wsL_law := inl_wsL_law_r31 _ (List.mem_of_getElem? (i := 17) (by decide +kernel))
theorem zm738 : Cond.selects RX12 yX12_safe yX12_safe ∈ wsL_law := inl_wsL_law_r31 _ (List.mem_of_getElem? (i := 18) (by decide +kernel))
theorem zm739 : Cond.code yX12_safe cX12_safe 2 (some .long) ∈ wsL_law := inl_wsL_law_r31 _ (List.mem_of_getElem? (i := 19) (by decide +kernel))
theorem zm740 : Cond.constantLong RX12 189 (-9223372036854775808) ∈ wsL_law := inl_wsL_law_r31 _ (List.mem_of_getElem? (i := 20) (by decide +kernel))
theorem zm741 : Cond.methodLink RX12 178 yX12_safeWays ∈ wsL_law := inl_wsL_law_r31 _ (List.mem_of_getElem? (i := 21) (by decide +kernel))
theorem zm742 : Cond.instanceMethod yX12_safeWays ∈ wsL_law := inl_wsL_law_r31 _ (List.mem_of_getElem? (i := 22) (by decide +kernel))
theorem zm743 : Cond.selects RX12 yX12_safeWays yX12_safeWays ∈ wsL_law := inl_wsL_law_r31 _ (List.mem_of_getElem? (i := 23) (by decide +kernel))
theorem zm744 : Cond.code yX12_safeWays cX12_safeWays 4 (some .long) ∈ wsL_law := inl_wsL_law_r32 _ (List.mem_of_getElem? (i := 0) (by decide +kernel))
theorem zm745 : Cond.methodLink RX12 175 yX12_isShort ∈ wsL_law := inl_wsL_law_r32 _ (List.mem_of_getElem? (i := 1) (by decide +kernel))
theorem zm746 : Cond.instanceMethod yX12_isShort ∈ wsL_law := inl_wsL_law_r32 _ (List.mem_of_getElem? (i := 2) (by decide +kernel))
theorem zm747 : Cond.selects RX12 yX12_isShort yX12_isShort ∈ wsL_law := inl_wsL_law_r32 _ (List.mem_of_getElem? (i := 3) (by decide +kernel))
theorem zm748 : Cond.code yX12_isShort cX12_isShort 1 (some .boolean) ∈ wsL_law := inl_wsL_law_r32 _ (List.mem_of_getElem? (i := 4) (by decide +kernel))
theorem zm749 : Cond.methodLink RX12 169 yX12_doesCount ∈ wsL_law := inl_wsL_law_r32 _ (List.mem_of_getElem? (i := 5) (by decide +kernel))
theorem zm750 : Cond.instanceMethod yX12_doesCount ∈ wsL_law := inl_wsL_law_r32 _ (List.mem_of_getElem? (i := 6) (by decide +kernel))
theorem zm751 : Cond.selects RX12 yX12_doesCount yX12_doesCount ∈ wsL_law := inl_wsL_law_r32 _ (List.mem_of_getElem? (i := 7) (by decide +kernel))
theorem zm752 : Cond.code yX12_doesCount cX12_doesCount 1 (some .boolean) ∈ wsL_law := inl_wsL_law_r32 _ (List.mem_of_getElem? (i := 8) (by decide +kernel))
theorem zm753 : Cond.methodLink RX12 182 yX12_allWays ∈ wsL_law := inl_wsL_law_r32 _ (List.mem_of_getElem? (i := 9) (by decide +kernel))
theorem zm754 : Cond.instanceMethod yX12_allWays ∈ wsL_law := inl_wsL_law_r32 _ (List.mem_of_getElem? (i := 10) (by decide +kernel))
theorem zm755 : Cond.selects RX12 yX12_allWays yX12_allWays ∈ wsL_law := inl_wsL_law_r32 _ (List.mem_of_getElem? (i := 11) (by decide +kernel))
theorem zm756 : Cond.code yX12_allWays cX12_allWays 4 (some .long) ∈ wsL_law := inl_wsL_law_r32 _ (List.mem_of_getElem? (i := 12) (by decide +kernel))
theorem zm757 : Cond.constantLong RX12 173 (100) ∈ wsL_law := inl_wsL_law_r32 _ (List.mem_of_getElem? (i := 13) (by decide +kernel))
theorem zm758 : Cond.methodLink RX12 185 yX12_lowest ∈ wsL_law := inl_wsL_law_r32 _ (List.mem_of_getElem? (i := 14) (by decide +kernel))
theorem zm759 : Cond.static yX12_lowest ∈ wsL_law := inl_wsL_law_r32 _ (List.mem_of_getElem? (i := 15) (by decide +kernel))
theorem zm760 : Cond.code yX12_lowest cX12_lowest 11 (some .long) ∈ wsL_law := inl_wsL_law_r32 _ (List.mem_of_getElem? (i := 16) (by decide +kernel))
theorem zm761 : Cond.methodLink RL 66 yX11_again ∈ wsL_law := inl_wsL_law_r32 _ (List.mem_of_getElem? (i := 17) (by decide +kernel))
theorem zm762 : Cond.instanceMethod yX11_again ∈ wsL_law := inl_wsL_law_r32 _ (List.mem_of_getElem? (i := 18) (by decide +kernel))
theorem zm763 : Cond.selects RX11 yX11_again yX11_again ∈ wsL_law := inl_wsL_law_r32 _ (List.mem_of_getElem? (i := 19) (by decide +kernel))
theorem zm764 : Cond.code yX11_again cX11_again 4 (some .long) ∈ wsL_law := inl_wsL_law_r32 _ (List.mem_of_getElem? (i := 20) (by decide +kernel))
theorem zm765 : Cond.constantLong RX11 173 (2) ∈ wsL_law := inl_wsL_law_r32 _ (List.mem_of_getElem? (i := 21) (by decide +kernel))
theorem zm766 : Cond.methodLink RL 69 yX12_again ∈ wsL_law := inl_wsL_law_r32 _ (List.mem_of_getElem? (i := 22) (by decide +kernel))
theorem zm767 : Cond.instanceMethod yX12_again ∈ wsL_law := inl_wsL_law_r32 _ (List.mem_of_getElem? (i := 23) (by decide +kernel))
theorem zm768 : Cond.selects RX12 yX12_again yX12_again ∈ wsL_law := inl_wsL_law_r33 _ (List.mem_of_getElem? (i := 0) (by decide +kernel))
theorem zm769 : Cond.code yX12_again cX12_again 4 (some .long) ∈ wsL_law := inl_wsL_law_r33 _ (List.mem_of_getElem? (i := 1) (by decide +kernel))
theorem zm770 : Cond.constantLong RX12 191 (2) ∈ wsL_law := inl_wsL_law_r33 _ (List.mem_of_getElem? (i := 2) (by decide +kernel))
theorem zm771 : Cond.methodLink RL 70 yX11_twice ∈ wsL_law := inl_wsL_law_r33 _ (List.mem_of_getElem? (i := 3) (by decide +kernel))
theorem zm772 : Cond.instanceMethod yX11_twice ∈ wsL_law := inl_wsL_law_r33 _ (List.mem_of_getElem? (i := 4) (by decide +kernel))
theorem zm773 : Cond.selects RX11 yX11_twice yX11_twice ∈ wsL_law := inl_wsL_law_r33 _ (List.mem_of_getElem? (i := 5) (by decide +kernel))
theorem zm774 : Cond.code yX11_twice cX11_twice 8 (some .long) ∈ wsL_law := inl_wsL_law_r33 _ (List.mem_of_getElem? (i := 6) (by decide +kernel))
theorem zm775 : Cond.methodLink RX11 177 Lib.Math.min.name ∈ wsL_law := inl_wsL_law_r33 _ (List.mem_of_getElem? (i := 7) (by decide +kernel))
theorem zm776 : Cond.methodLink RL 74 yX12_twice ∈ wsL_law := inl_wsL_law_r33 _ (List.mem_of_getElem? (i := 8) (by decide +kernel))
theorem zm777 : Cond.instanceMethod yX12_twice ∈ wsL_law := inl_wsL_law_r33 _ (List.mem_of_getElem? (i := 9) (by decide +kernel))
theorem zm778 : Cond.selects RX12 yX12_twice yX12_twice ∈ wsL_law := inl_wsL_law_r33 _ (List.mem_of_getElem? (i := 10) (by decide +kernel))
theorem zm779 : Cond.code yX12_twice cX12_twice 8 (some .long) ∈ wsL_law := inl_wsL_law_r33 _ (List.mem_of_getElem? (i := 11) (by decide +kernel))
theorem zm780 : Cond.methodLink RL 75 yX11_quick ∈ wsL_law := inl_wsL_law_r33 _ (List.mem_of_getElem? (i := 12) (by decide +kernel))
theorem zm781 : Cond.instanceMethod yX11_quick ∈ wsL_law := inl_wsL_law_r33 _ (List.mem_of_getElem? (i := 13) (by decide +kernel))
theorem zm782 : Cond.selects RX11 yX11_quick yX11_quick ∈ wsL_law := inl_wsL_law_r33 _ (List.mem_of_getElem? (i := 14) (by decide +kernel))
theorem zm783 : Cond.code yX11_quick cX11_quick 7 (some .int) ∈ wsL_law := inl_wsL_law_r33 _ (List.mem_of_getElem? (i := 15) (by decide +kernel))
theorem zm784 : Cond.methodLink RX11 182 yX11_isPence ∈ wsL_law := inl_wsL_law_r33 _ (List.mem_of_getElem? (i := 16) (by decide +kernel))
theorem zm785 : Cond.static yX11_isPence ∈ wsL_law := inl_wsL_law_r33 _ (List.mem_of_getElem? (i := 17) (by decide +kernel))
theorem zm786 : Cond.code yX11_isPence cX11_isPence 1 (some .boolean) ∈ wsL_law := inl_wsL_law_r33 _ (List.mem_of_getElem? (i := 18) (by decide +kernel))
theorem zm787 : Cond.methodLink RL 78 yX12_quick ∈ wsL_law := inl_wsL_law_r33 _ (List.mem_of_getElem? (i := 19) (by decide +kernel))
theorem zm788 : Cond.instanceMethod yX12_quick ∈ wsL_law := inl_wsL_law_r33 _ (List.mem_of_getElem? (i := 20) (by decide +kernel))
theorem zm789 : Cond.selects RX12 yX12_quick yX12_quick ∈ wsL_law := inl_wsL_law_r33 _ (List.mem_of_getElem? (i := 21) (by decide +kernel))
theorem zm790 : Cond.code yX12_quick cX12_quick 8 (some .int) ∈ wsL_law := inl_wsL_law_r33 _ (List.mem_of_getElem? (i := 22) (by decide +kernel))
theorem zm791 : Cond.methodLink RL 79 yX11_change ∈ wsL_law := inl_wsL_law_r33 _ (List.mem_of_getElem? (i := 23) (by decide +kernel))
theorem zm792 : Cond.instanceMethod yX11_change ∈ wsL_law := inl_wsL_law_r34 _ (List.mem_of_getElem? (i := 0) (by decide +kernel))
theorem zm793 : Cond.selects RX11 yX11_change yX11_change ∈ wsL_law := inl_wsL_law_r34 _ (List.mem_of_getElem? (i := 1) (by decide +kernel))
theorem zm794 : Cond.code yX11_change cX11_change 6 (some .int) ∈ wsL_law := inl_wsL_law_r34 _ (List.mem_of_getElem? (i := 2) (by decide +kernel))
theorem zm795 : Cond.constant RX11 185 (2147483647) ∈ wsL_law := inl_wsL_law_r34 _ (List.mem_of_getElem? (i := 3) (by decide +kernel))
theorem zm796 : Cond.methodLink RX11 186 yX11_bestChangeAt ∈ wsL_law := inl_wsL_law_r34 _ (List.mem_of_getElem? (i := 4) (by decide +kernel))
theorem zm797 : Cond.instanceMethod yX11_bestChangeAt ∈ wsL_law := inl_wsL_law_r34 _ (List.mem_of_getElem? (i := 5) (by decide +kernel))
theorem zm798 : Cond.selects RX11 yX11_bestChangeAt yX11_bestChangeAt ∈ wsL_law := inl_wsL_law_r34 _ (List.mem_of_getElem? (i := 6) (by decide +kernel))
theorem zm799 : Cond.code yX11_bestChangeAt cX11_bestChangeAt 13 (some .int) ∈ wsL_law := inl_wsL_law_r34 _ (List.mem_of_getElem? (i := 7) (by decide +kernel))
theorem zm800 : Cond.methodLink RL 82 yX12_change ∈ wsL_law := inl_wsL_law_r34 _ (List.mem_of_getElem? (i := 8) (by decide +kernel))
theorem zm801 : Cond.instanceMethod yX12_change ∈ wsL_law := inl_wsL_law_r34 _ (List.mem_of_getElem? (i := 9) (by decide +kernel))
theorem zm802 : Cond.selects RX12 yX12_change yX12_change ∈ wsL_law := inl_wsL_law_r34 _ (List.mem_of_getElem? (i := 10) (by decide +kernel))
theorem zm803 : Cond.code yX12_change cX12_change 7 (some .int) ∈ wsL_law := inl_wsL_law_r34 _ (List.mem_of_getElem? (i := 11) (by decide +kernel))
theorem zm804 : Cond.fieldLink RX12 193 "TwoPensModel" "bestSeconds" "I" ∈ wsL_law := inl_wsL_law_r34 _ (List.mem_of_getElem? (i := 12) (by decide +kernel))
theorem zm805 : Cond.fieldLink RX12 196 "TwoPensModel" "bestFirst" "I" ∈ wsL_law := inl_wsL_law_r34 _ (List.mem_of_getElem? (i := 13) (by decide +kernel))
theorem zm806 : Cond.fieldLink RX12 199 "TwoPensModel" "bestAt" "I" ∈ wsL_law := inl_wsL_law_r34 _ (List.mem_of_getElem? (i := 14) (by decide +kernel))
theorem zm807 : Cond.fieldLink RX12 202 "TwoPensModel" "bestSecond" "I" ∈ wsL_law := inl_wsL_law_r34 _ (List.mem_of_getElem? (i := 15) (by decide +kernel))
theorem zm808 : Cond.methodLink RX12 205 yX12_triesChange ∈ wsL_law := inl_wsL_law_r34 _ (List.mem_of_getElem? (i := 16) (by decide +kernel))
theorem zm809 : Cond.instanceMethod yX12_triesChange ∈ wsL_law := inl_wsL_law_r34 _ (List.mem_of_getElem? (i := 17) (by decide +kernel))
theorem zm810 : Cond.selects RX12 yX12_triesChange yX12_triesChange ∈ wsL_law := inl_wsL_law_r34 _ (List.mem_of_getElem? (i := 18) (by decide +kernel))
theorem zm811 : Cond.code yX12_triesChange cX12_triesChange 7 none ∈ wsL_law := inl_wsL_law_r34 _ (List.mem_of_getElem? (i := 19) (by decide +kernel))
theorem zm812 : Cond.methodLink RL 83 yX11_rests ∈ wsL_law := inl_wsL_law_r34 _ (List.mem_of_getElem? (i := 20) (by decide +kernel))
theorem zm813 : Cond.instanceMethod yX11_rests ∈ wsL_law := inl_wsL_law_r34 _ (List.mem_of_getElem? (i := 21) (by decide +kernel))
theorem zm814 : Cond.selects RX11 yX11_rests yX11_rests ∈ wsL_law := inl_wsL_law_r34 _ (List.mem_of_getElem? (i := 22) (by decide +kernel))
theorem zm815 : Cond.code yX11_rests cX11_rests 7 (some .int) ∈ wsL_law := inl_wsL_law_r34 _ (List.mem_of_getElem? (i := 23) (by decide +kernel))
theorem zm816 : Cond.methodLink RX11 190 yX11_withRests ∈ wsL_law := inl_wsL_law_r35 _ (List.mem_of_getElem? (i := 0) (by decide +kernel))
theorem zm817 : Cond.instanceMethod yX11_withRests ∈ wsL_law := inl_wsL_law_r35 _ (List.mem_of_getElem? (i := 1) (by decide +kernel))
theorem zm818 : Cond.selects RX11 yX11_withRests yX11_withRests ∈ wsL_law := inl_wsL_law_r35 _ (List.mem_of_getElem? (i := 2) (by decide +kernel))
theorem zm819 : Cond.code yX11_withRests cX11_withRests 7 (some .int) ∈ wsL_law := inl_wsL_law_r35 _ (List.mem_of_getElem? (i := 3) (by decide +kernel))
theorem zm820 : Cond.methodLink RL 87 yX12_rests ∈ wsL_law := inl_wsL_law_r35 _ (List.mem_of_getElem? (i := 4) (by decide +kernel))
theorem zm821 : Cond.instanceMethod yX12_rests ∈ wsL_law := inl_wsL_law_r35 _ (List.mem_of_getElem? (i := 5) (by decide +kernel))
theorem zm822 : Cond.selects RX12 yX12_rests yX12_rests ∈ wsL_law := inl_wsL_law_r35 _ (List.mem_of_getElem? (i := 6) (by decide +kernel))
theorem zm823 : Cond.code yX12_rests cX12_rests 10 (some .int) ∈ wsL_law := inl_wsL_law_r35 _ (List.mem_of_getElem? (i := 7) (by decide +kernel))
theorem zm824 : Cond.constant RX12 209 (1000000) ∈ wsL_law := inl_wsL_law_r35 _ (List.mem_of_getElem? (i := 8) (by decide +kernel))
theorem zm825 : Cond.methodLink RL 88 yX11_mend ∈ wsL_law := inl_wsL_law_r35 _ (List.mem_of_getElem? (i := 9) (by decide +kernel))
theorem zm826 : Cond.instanceMethod yX11_mend ∈ wsL_law := inl_wsL_law_r35 _ (List.mem_of_getElem? (i := 10) (by decide +kernel))
theorem zm827 : Cond.selects RX11 yX11_mend yX11_mend ∈ wsL_law := inl_wsL_law_r35 _ (List.mem_of_getElem? (i := 11) (by decide +kernel))
theorem zm828 : Cond.code yX11_mend cX11_mend 9 (some .int) ∈ wsL_law := inl_wsL_law_r35 _ (List.mem_of_getElem? (i := 12) (by decide +kernel))
theorem zm829 : Cond.methodLink RX11 194 yX2_unseenIf ∈ wsL_law := inl_wsL_law_r35 _ (List.mem_of_getElem? (i := 13) (by decide +kernel))
theorem zm830 : Cond.methodLink RL 91 yX12_mend ∈ wsL_law := inl_wsL_law_r35 _ (List.mem_of_getElem? (i := 14) (by decide +kernel))
theorem zm831 : Cond.instanceMethod yX12_mend ∈ wsL_law := inl_wsL_law_r35 _ (List.mem_of_getElem? (i := 15) (by decide +kernel))
theorem zm832 : Cond.selects RX12 yX12_mend yX12_mend ∈ wsL_law := inl_wsL_law_r35 _ (List.mem_of_getElem? (i := 16) (by decide +kernel))
theorem zm833 : Cond.code yX12_mend cX12_mend 10 (some .int) ∈ wsL_law := inl_wsL_law_r35 _ (List.mem_of_getElem? (i := 17) (by decide +kernel))
theorem zm834 : Cond.methodLink RL 92 yX11_where ∈ wsL_law := inl_wsL_law_r35 _ (List.mem_of_getElem? (i := 18) (by decide +kernel))
theorem zm835 : Cond.instanceMethod yX11_where ∈ wsL_law := inl_wsL_law_r35 _ (List.mem_of_getElem? (i := 19) (by decide +kernel))
theorem zm836 : Cond.selects RX11 yX11_where yX11_where ∈ wsL_law := inl_wsL_law_r35 _ (List.mem_of_getElem? (i := 20) (by decide +kernel))
theorem zm837 : Cond.code yX11_where cX11_where 5 (some .int) ∈ wsL_law := inl_wsL_law_r35 _ (List.mem_of_getElem? (i := 21) (by decide +kernel))
theorem zm838 : Cond.methodLink RX11 198 yX11_nextWhere ∈ wsL_law := inl_wsL_law_r35 _ (List.mem_of_getElem? (i := 22) (by decide +kernel))
theorem zm839 : Cond.instanceMethod yX11_nextWhere ∈ wsL_law := inl_wsL_law_r35 _ (List.mem_of_getElem? (i := 23) (by decide +kernel))
theorem zm840 : Cond.selects RX11 yX11_nextWhere yX11_nextWhere ∈ wsL_law := inl_wsL_law_r36 _ (List.mem_of_getElem? (i := 0) (by decide +kernel))
theorem zm841 : Cond.code yX11_nextWhere cX11_nextWhere 8 (some .int) ∈ wsL_law := inl_wsL_law_r36 _ (List.mem_of_getElem? (i := 1) (by decide +kernel))
theorem zm842 : Cond.methodLink RL 95 yX12_where ∈ wsL_law := inl_wsL_law_r36 _ (List.mem_of_getElem? (i := 2) (by decide +kernel))
theorem zm843 : Cond.instanceMethod yX12_where ∈ wsL_law := inl_wsL_law_r36 _ (List.mem_of_getElem? (i := 3) (by decide +kernel))
theorem zm844 : Cond.selects RX12 yX12_where yX12_where ∈ wsL_law := inl_wsL_law_r36 _ (List.mem_of_getElem? (i := 4) (by decide +kernel))
theorem zm845 : Cond.code yX12_where cX12_where 6 (some .int) ∈ wsL_law := inl_wsL_law_r36 _ (List.mem_of_getElem? (i := 5) (by decide +kernel))
theorem zm846 : Cond.methodLink RL 96 yX11_left ∈ wsL_law := inl_wsL_law_r36 _ (List.mem_of_getElem? (i := 6) (by decide +kernel))
theorem zm847 : Cond.instanceMethod yX11_left ∈ wsL_law := inl_wsL_law_r36 _ (List.mem_of_getElem? (i := 7) (by decide +kernel))
theorem zm848 : Cond.selects RX11 yX11_left yX11_left ∈ wsL_law := inl_wsL_law_r36 _ (List.mem_of_getElem? (i := 8) (by decide +kernel))
theorem zm849 : Cond.code yX11_left cX11_left 3 (some .int) ∈ wsL_law := inl_wsL_law_r36 _ (List.mem_of_getElem? (i := 9) (by decide +kernel))
theorem zm850 : Cond.methodLink RL 99 yX12_left ∈ wsL_law := inl_wsL_law_r36 _ (List.mem_of_getElem? (i := 10) (by decide +kernel))
theorem zm851 : Cond.instanceMethod yX12_left ∈ wsL_law := inl_wsL_law_r36 _ (List.mem_of_getElem? (i := 11) (by decide +kernel))
theorem zm852 : Cond.selects RX12 yX12_left yX12_left ∈ wsL_law := inl_wsL_law_r36 _ (List.mem_of_getElem? (i := 12) (by decide +kernel))
theorem zm853 : Cond.code yX12_left cX12_left 3 (some .int) ∈ wsL_law := inl_wsL_law_r36 _ (List.mem_of_getElem? (i := 13) (by decide +kernel))
theorem zm854 : Cond.methodLink RL 100 yX11_longest ∈ wsL_law := inl_wsL_law_r36 _ (List.mem_of_getElem? (i := 14) (by decide +kernel))
theorem zm855 : Cond.instanceMethod yX11_longest ∈ wsL_law := inl_wsL_law_r36 _ (List.mem_of_getElem? (i := 15) (by decide +kernel))
theorem zm856 : Cond.selects RX11 yX11_longest yX11_longest ∈ wsL_law := inl_wsL_law_r36 _ (List.mem_of_getElem? (i := 16) (by decide +kernel))
theorem zm857 : Cond.code yX11_longest cX11_longest 7 (some .int) ∈ wsL_law := inl_wsL_law_r36 _ (List.mem_of_getElem? (i := 17) (by decide +kernel))
theorem zm858 : Cond.methodLink RL 103 yX12_longest ∈ wsL_law := inl_wsL_law_r36 _ (List.mem_of_getElem? (i := 18) (by decide +kernel))
theorem zm859 : Cond.instanceMethod yX12_longest ∈ wsL_law := inl_wsL_law_r36 _ (List.mem_of_getElem? (i := 19) (by decide +kernel))
theorem zm860 : Cond.selects RX12 yX12_longest yX12_longest ∈ wsL_law := inl_wsL_law_r36 _ (List.mem_of_getElem? (i := 20) (by decide +kernel))
theorem zm861 : Cond.code yX12_longest cX12_longest 6 (some .int) ∈ wsL_law := inl_wsL_law_r36 _ (List.mem_of_getElem? (i := 21) (by decide +kernel))
theorem zm862 : Cond.methodLink RL 104 yX11_show ∈ wsL_law := inl_wsL_law_r36 _ (List.mem_of_getElem? (i := 22) (by decide +kernel))
theorem zm863 : Cond.instanceMethod yX11_show ∈ wsL_law := inl_wsL_law_r36 _ (List.mem_of_getElem? (i := 23) (by decide +kernel))
theorem zm864 : Cond.selects RX11 yX11_show yX11_show ∈ wsL_law := inl_wsL_law_r37 _ (List.mem_of_getElem? (i := 0) (by decide +kernel))
theorem zm865 : Cond.code yX11_show cX11_show 2 (some .int) ∈ wsL_law := inl_wsL_law_r37 _ (List.mem_of_getElem? (i := 1) (by decide +kernel))
theorem zm866 : Cond.methodLink RL 107 yX12_show ∈ wsL_law := inl_wsL_law_r37 _ (List.mem_of_getElem? (i := 2) (by decide +kernel))
theorem zm867 : Cond.instanceMethod yX12_show ∈ wsL_law := inl_wsL_law_r37 _ (List.mem_of_getElem? (i := 3) (by decide +kernel))
theorem zm868 : Cond.selects RX12 yX12_show yX12_show ∈ wsL_law := inl_wsL_law_r37 _ (List.mem_of_getElem? (i := 4) (by decide +kernel))
theorem zm869 : Cond.code yX12_show cX12_show 2 (some .int) ∈ wsL_law := inl_wsL_law_r37 _ (List.mem_of_getElem? (i := 5) (by decide +kernel))
theorem zm870 : Cond.methodLink RL 108 yX11_whose ∈ wsL_law := inl_wsL_law_r37 _ (List.mem_of_getElem? (i := 6) (by decide +kernel))
theorem zm871 : Cond.instanceMethod yX11_whose ∈ wsL_law := inl_wsL_law_r37 _ (List.mem_of_getElem? (i := 7) (by decide +kernel))
theorem zm872 : Cond.selects RX11 yX11_whose yX11_whose ∈ wsL_law := inl_wsL_law_r37 _ (List.mem_of_getElem? (i := 8) (by decide +kernel))
theorem zm873 : Cond.code yX11_whose cX11_whose 3 (some .int) ∈ wsL_law := inl_wsL_law_r37 _ (List.mem_of_getElem? (i := 9) (by decide +kernel))
theorem zm874 : Cond.methodLink RX11 201 yX11_couldBeBy ∈ wsL_law := inl_wsL_law_r37 _ (List.mem_of_getElem? (i := 10) (by decide +kernel))
theorem zm875 : Cond.instanceMethod yX11_couldBeBy ∈ wsL_law := inl_wsL_law_r37 _ (List.mem_of_getElem? (i := 11) (by decide +kernel))
theorem zm876 : Cond.selects RX11 yX11_couldBeBy yX11_couldBeBy ∈ wsL_law := inl_wsL_law_r37 _ (List.mem_of_getElem? (i := 12) (by decide +kernel))
theorem zm877 : Cond.code yX11_couldBeBy cX11_couldBeBy 4 (some .boolean) ∈ wsL_law := inl_wsL_law_r37 _ (List.mem_of_getElem? (i := 13) (by decide +kernel))
theorem zm878 : Cond.methodLink RX11 267 yX2_signIf ∈ wsL_law := inl_wsL_law_r37 _ (List.mem_of_getElem? (i := 14) (by decide +kernel))
theorem zm879 : Cond.methodLink RL 111 yX12_whose ∈ wsL_law := inl_wsL_law_r37 _ (List.mem_of_getElem? (i := 15) (by decide +kernel))
theorem zm880 : Cond.instanceMethod yX12_whose ∈ wsL_law := inl_wsL_law_r37 _ (List.mem_of_getElem? (i := 16) (by decide +kernel))
theorem zm881 : Cond.selects RX12 yX12_whose yX12_whose ∈ wsL_law := inl_wsL_law_r37 _ (List.mem_of_getElem? (i := 17) (by decide +kernel))
theorem zm882 : Cond.code yX12_whose cX12_whose 5 (some .int) ∈ wsL_law := inl_wsL_law_r37 _ (List.mem_of_getElem? (i := 18) (by decide +kernel))
theorem zm883 : Cond.methodLink RX12 210 yX12_wouldShow ∈ wsL_law := inl_wsL_law_r37 _ (List.mem_of_getElem? (i := 19) (by decide +kernel))
theorem zm884 : Cond.instanceMethod yX12_wouldShow ∈ wsL_law := inl_wsL_law_r37 _ (List.mem_of_getElem? (i := 20) (by decide +kernel))
theorem zm885 : Cond.selects RX12 yX12_wouldShow yX12_wouldShow ∈ wsL_law := inl_wsL_law_r37 _ (List.mem_of_getElem? (i := 21) (by decide +kernel))
theorem zm886 : Cond.code yX12_wouldShow cX12_wouldShow 5 (some .boolean) ∈ wsL_law := inl_wsL_law_r37 _ (List.mem_of_getElem? (i := 22) (by decide +kernel))
theorem zm887 : Cond.methodLink RL 112 yX11_wanted ∈ wsL_law := inl_wsL_law_r37 _ (List.mem_of_getElem? (i := 23) (by decide +kernel))
theorem zm888 : Cond.instanceMethod yX11_wanted ∈ wsL_law := inl_wsL_law_r38 _ (List.mem_of_getElem? (i := 0) (by decide +kernel))
theorem zm889 : Cond.selects RX11 yX11_wanted yX11_wanted ∈ wsL_law := inl_wsL_law_r38 _ (List.mem_of_getElem? (i := 1) (by decide +kernel))
theorem zm890 : Cond.code yX11_wanted cX11_wanted 2 (some .int) ∈ wsL_law := inl_wsL_law_r38 _ (List.mem_of_getElem? (i := 2) (by decide +kernel))
theorem zm891 : Cond.fieldLink RX11 204 "TwoPens$Desk" "days" "LTwoPens$Numbers;" ∈ wsL_law := inl_wsL_law_r38 _ (List.mem_of_getElem? (i := 3) (by decide +kernel))
theorem zm892 : Cond.methodLink RL 115 yX12_wanted ∈ wsL_law := inl_wsL_law_r38 _ (List.mem_of_getElem? (i := 4) (by decide +kernel))
theorem zm893 : Cond.instanceMethod yX12_wanted ∈ wsL_law := inl_wsL_law_r38 _ (List.mem_of_getElem? (i := 5) (by decide +kernel))
theorem zm894 : Cond.selects RX12 yX12_wanted yX12_wanted ∈ wsL_law := inl_wsL_law_r38 _ (List.mem_of_getElem? (i := 6) (by decide +kernel))
theorem zm895 : Cond.code yX12_wanted cX12_wanted 2 (some .int) ∈ wsL_law := inl_wsL_law_r38 _ (List.mem_of_getElem? (i := 7) (by decide +kernel))
theorem zm896 : Cond.methodLink RL 116 yX11_stock ∈ wsL_law := inl_wsL_law_r38 _ (List.mem_of_getElem? (i := 8) (by decide +kernel))
theorem zm897 : Cond.instanceMethod yX11_stock ∈ wsL_law := inl_wsL_law_r38 _ (List.mem_of_getElem? (i := 9) (by decide +kernel))
theorem zm898 : Cond.selects RX11 yX11_stock yX11_stock ∈ wsL_law := inl_wsL_law_r38 _ (List.mem_of_getElem? (i := 10) (by decide +kernel))
theorem zm899 : Cond.code yX11_stock cX11_stock 3 (some .int) ∈ wsL_law := inl_wsL_law_r38 _ (List.mem_of_getElem? (i := 11) (by decide +kernel))
theorem zm900 : Cond.methodLink RX11 207 yX11_isCost ∈ wsL_law := inl_wsL_law_r38 _ (List.mem_of_getElem? (i := 12) (by decide +kernel))
theorem zm901 : Cond.static yX11_isCost ∈ wsL_law := inl_wsL_law_r38 _ (List.mem_of_getElem? (i := 13) (by decide +kernel))
theorem zm902 : Cond.code yX11_isCost cX11_isCost 1 (some .boolean) ∈ wsL_law := inl_wsL_law_r38 _ (List.mem_of_getElem? (i := 14) (by decide +kernel))
theorem zm903 : Cond.methodLink RX11 210 yX11_bestStock ∈ wsL_law := inl_wsL_law_r38 _ (List.mem_of_getElem? (i := 15) (by decide +kernel))
theorem zm904 : Cond.instanceMethod yX11_bestStock ∈ wsL_law := inl_wsL_law_r38 _ (List.mem_of_getElem? (i := 16) (by decide +kernel))
theorem zm905 : Cond.selects RX11 yX11_bestStock yX11_bestStock ∈ wsL_law := inl_wsL_law_r38 _ (List.mem_of_getElem? (i := 17) (by decide +kernel))
theorem zm906 : Cond.code yX11_bestStock cX11_bestStock 5 (some .int) ∈ wsL_law := inl_wsL_law_r38 _ (List.mem_of_getElem? (i := 18) (by decide +kernel))
theorem zm907 : Cond.methodLink RX11 213 yX11_costOfStock ∈ wsL_law := inl_wsL_law_r38 _ (List.mem_of_getElem? (i := 19) (by decide +kernel))
theorem zm908 : Cond.instanceMethod yX11_costOfStock ∈ wsL_law := inl_wsL_law_r38 _ (List.mem_of_getElem? (i := 20) (by decide +kernel))
theorem zm909 : Cond.selects RX11 yX11_costOfStock yX11_costOfStock ∈ wsL_law := inl_wsL_law_r38 _ (List.mem_of_getElem? (i := 21) (by decide +kernel))
theorem zm910 : Cond.code yX11_costOfStock cX11_costOfStock 7 (some .int) ∈ wsL_law := inl_wsL_law_r38 _ (List.mem_of_getElem? (i := 22) (by decide +kernel))
theorem zm911 : Cond.methodLink RL 119 yX12_stock ∈ wsL_law := inl_wsL_law_r38 _ (List.mem_of_getElem? (i := 23) (by decide +kernel))
theorem zm912 : Cond.instanceMethod yX12_stock ∈ wsL_law := inl_wsL_law_r39 _ (List.mem_of_getElem? (i := 0) (by decide +kernel))
theorem zm913 : Cond.selects RX12 yX12_stock yX12_stock ∈ wsL_law := inl_wsL_law_r39 _ (List.mem_of_getElem? (i := 1) (by decide +kernel))
theorem zm914 : Cond.code yX12_stock cX12_stock 3 (some .int) ∈ wsL_law := inl_wsL_law_r39 _ (List.mem_of_getElem? (i := 2) (by decide +kernel))
theorem zm915 : Cond.methodLink RX12 217 yX12_stockOf ∈ wsL_law := inl_wsL_law_r39 _ (List.mem_of_getElem? (i := 3) (by decide +kernel))
theorem zm916 : Cond.instanceMethod yX12_stockOf ∈ wsL_law := inl_wsL_law_r39 _ (List.mem_of_getElem? (i := 4) (by decide +kernel))
theorem zm917 : Cond.selects RX12 yX12_stockOf yX12_stockOf ∈ wsL_law := inl_wsL_law_r39 _ (List.mem_of_getElem? (i := 5) (by decide +kernel))
theorem zm918 : Cond.code yX12_stockOf cX12_stockOf 8 (some .int) ∈ wsL_law := inl_wsL_law_r39 _ (List.mem_of_getElem? (i := 6) (by decide +kernel))
theorem zm919 : Cond.fieldLink RX12 214 "TwoPensModel" "leastCost" "I" ∈ wsL_law := inl_wsL_law_r39 _ (List.mem_of_getElem? (i := 7) (by decide +kernel))
theorem zm920 : Cond.methodLink RL 120 yX11_mean ∈ wsL_law := inl_wsL_law_r39 _ (List.mem_of_getElem? (i := 8) (by decide +kernel))
theorem zm921 : Cond.instanceMethod yX11_mean ∈ wsL_law := inl_wsL_law_r39 _ (List.mem_of_getElem? (i := 9) (by decide +kernel))
theorem zm922 : Cond.selects RX11 yX11_mean yX11_mean ∈ wsL_law := inl_wsL_law_r39 _ (List.mem_of_getElem? (i := 10) (by decide +kernel))
theorem zm923 : Cond.code yX11_mean cX11_mean 4 (some .long) ∈ wsL_law := inl_wsL_law_r39 _ (List.mem_of_getElem? (i := 11) (by decide +kernel))
theorem zm924 : Cond.methodLink RL 124 yX12_mean ∈ wsL_law := inl_wsL_law_r39 _ (List.mem_of_getElem? (i := 12) (by decide +kernel))
theorem zm925 : Cond.instanceMethod yX12_mean ∈ wsL_law := inl_wsL_law_r39 _ (List.mem_of_getElem? (i := 13) (by decide +kernel))
theorem zm926 : Cond.selects RX12 yX12_mean yX12_mean ∈ wsL_law := inl_wsL_law_r39 _ (List.mem_of_getElem? (i := 14) (by decide +kernel))
theorem zm927 : Cond.code yX12_mean cX12_mean 4 (some .long) ∈ wsL_law := inl_wsL_law_r39 _ (List.mem_of_getElem? (i := 15) (by decide +kernel))
theorem zm928 : Cond.methodLink RL 125 yX11_table ∈ wsL_law := inl_wsL_law_r39 _ (List.mem_of_getElem? (i := 16) (by decide +kernel))
theorem zm929 : Cond.instanceMethod yX11_table ∈ wsL_law := inl_wsL_law_r39 _ (List.mem_of_getElem? (i := 17) (by decide +kernel))
theorem zm930 : Cond.selects RX11 yX11_table yX11_table ∈ wsL_law := inl_wsL_law_r39 _ (List.mem_of_getElem? (i := 18) (by decide +kernel))
theorem zm931 : Cond.code yX11_table cX11_table 8 (some .long) ∈ wsL_law := inl_wsL_law_r39 _ (List.mem_of_getElem? (i := 19) (by decide +kernel))
theorem zm932 : Cond.methodLink RX11 219 Lib.Math.max.name ∈ wsL_law := inl_wsL_law_r39 _ (List.mem_of_getElem? (i := 20) (by decide +kernel))
theorem zm933 : Cond.methodLink RX11 216 yX11_isEntry ∈ wsL_law := inl_wsL_law_r39 _ (List.mem_of_getElem? (i := 21) (by decide +kernel))
theorem zm934 : Cond.static yX11_isEntry ∈ wsL_law := inl_wsL_law_r39 _ (List.mem_of_getElem? (i := 22) (by decide +kernel))
theorem zm935 : Cond.code yX11_isEntry cX11_isEntry 1 (some .boolean) ∈ wsL_law := inl_wsL_law_r39 _ (List.mem_of_getElem? (i := 23) (by decide +kernel))
theorem zm936 : Cond.methodLink RL 129 yX12_table ∈ wsL_law := inl_wsL_law_r40 _ (List.mem_of_getElem? (i := 0) (by decide +kernel))
theorem zm937 : Cond.instanceMethod yX12_table ∈ wsL_law := inl_wsL_law_r40 _ (List.mem_of_getElem? (i := 1) (by decide +kernel))
theorem zm938 : Cond.selects RX12 yX12_table yX12_table ∈ wsL_law := inl_wsL_law_r40 _ (List.mem_of_getElem? (i := 2) (by decide +kernel))
theorem zm939 : Cond.code yX12_table cX12_table 16 (some .long) ∈ wsL_law := inl_wsL_law_r40 _ (List.mem_of_getElem? (i := 3) (by decide +kernel))
theorem zm940 : Cond.methodLink RX12 220 yX12_isPaid ∈ wsL_law := inl_wsL_law_r40 _ (List.mem_of_getElem? (i := 4) (by decide +kernel))
theorem zm941 : Cond.static yX12_isPaid ∈ wsL_law := inl_wsL_law_r40 _ (List.mem_of_getElem? (i := 5) (by decide +kernel))
theorem zm942 : Cond.code yX12_isPaid cX12_isPaid 1 (some .boolean) ∈ wsL_law := inl_wsL_law_r40 _ (List.mem_of_getElem? (i := 6) (by decide +kernel))
theorem zm943 : Cond.methodLink RL 130 yX11_book ∈ wsL_law := inl_wsL_law_r40 _ (List.mem_of_getElem? (i := 7) (by decide +kernel))
theorem zm944 : Cond.instanceMethod yX11_book ∈ wsL_law := inl_wsL_law_r40 _ (List.mem_of_getElem? (i := 8) (by decide +kernel))
theorem zm945 : Cond.selects RX11 yX11_book yX11_book ∈ wsL_law := inl_wsL_law_r40 _ (List.mem_of_getElem? (i := 9) (by decide +kernel))
theorem zm946 : Cond.code yX11_book cX11_book 4 (some .int) ∈ wsL_law := inl_wsL_law_r40 _ (List.mem_of_getElem? (i := 10) (by decide +kernel))
theorem zm947 : Cond.fieldLink RX11 222 "TwoPens$Desk" "bookPlaces" "LTwoPens$Numbers;" ∈ wsL_law := inl_wsL_law_r40 _ (List.mem_of_getElem? (i := 11) (by decide +kernel))
theorem zm948 : Cond.fieldLink RX11 225 "TwoPens$Desk" "bookWays" "LTwoPens$Numbers;" ∈ wsL_law := inl_wsL_law_r40 _ (List.mem_of_getElem? (i := 12) (by decide +kernel))
theorem zm949 : Cond.methodLink RL 133 yX12_book ∈ wsL_law := inl_wsL_law_r40 _ (List.mem_of_getElem? (i := 13) (by decide +kernel))
theorem zm950 : Cond.instanceMethod yX12_book ∈ wsL_law := inl_wsL_law_r40 _ (List.mem_of_getElem? (i := 14) (by decide +kernel))
theorem zm951 : Cond.selects RX12 yX12_book yX12_book ∈ wsL_law := inl_wsL_law_r40 _ (List.mem_of_getElem? (i := 15) (by decide +kernel))
theorem zm952 : Cond.code yX12_book cX12_book 3 (some .int) ∈ wsL_law := inl_wsL_law_r40 _ (List.mem_of_getElem? (i := 16) (by decide +kernel))
theorem zm953 : Cond.methodLink RL 134 yX11_looked ∈ wsL_law := inl_wsL_law_r40 _ (List.mem_of_getElem? (i := 17) (by decide +kernel))
theorem zm954 : Cond.instanceMethod yX11_looked ∈ wsL_law := inl_wsL_law_r40 _ (List.mem_of_getElem? (i := 18) (by decide +kernel))
theorem zm955 : Cond.selects RX11 yX11_looked yX11_looked ∈ wsL_law := inl_wsL_law_r40 _ (List.mem_of_getElem? (i := 19) (by decide +kernel))
theorem zm956 : Cond.code yX11_looked cX11_looked 2 (some .int) ∈ wsL_law := inl_wsL_law_r40 _ (List.mem_of_getElem? (i := 20) (by decide +kernel))
theorem zm957 : Cond.methodLink RL 137 yX12_looked ∈ wsL_law := inl_wsL_law_r40 _ (List.mem_of_getElem? (i := 21) (by decide +kernel))
theorem zm958 : Cond.instanceMethod yX12_looked ∈ wsL_law := inl_wsL_law_r40 _ (List.mem_of_getElem? (i := 22) (by decide +kernel))
theorem zm959 : Cond.selects RX12 yX12_looked yX12_looked ∈ wsL_law := inl_wsL_law_r40 _ (List.mem_of_getElem? (i := 23) (by decide +kernel))
theorem zm960 : Cond.code yX12_looked cX12_looked 2 (some .int) ∈ wsL_law := inl_wsL_law_r41 _ (List.mem_of_getElem? (i := 0) (by decide +kernel))
theorem zm961 : Cond.methodLink RL 138 yX11_act ∈ wsL_law := inl_wsL_law_r41 _ (List.mem_of_getElem? (i := 1) (by decide +kernel))
theorem zm962 : Cond.instanceMethod yX11_act ∈ wsL_law := inl_wsL_law_r41 _ (List.mem_of_getElem? (i := 2) (by decide +kernel))
theorem zm963 : Cond.selects RX11 yX11_act yX11_act ∈ wsL_law := inl_wsL_law_r41 _ (List.mem_of_getElem? (i := 3) (by decide +kernel))
theorem zm964 : Cond.code yX11_act cX11_act 5 (some .int) ∈ wsL_law := inl_wsL_law_r41 _ (List.mem_of_getElem? (i := 4) (by decide +kernel))
theorem zm965 : Cond.methodLink RX11 228 yX8_clear ∈ wsL_law := inl_wsL_law_r41 _ (List.mem_of_getElem? (i := 5) (by decide +kernel))
theorem zm966 : Cond.instanceMethod yX8_clear ∈ wsL_law := inl_wsL_law_r41 _ (List.mem_of_getElem? (i := 6) (by decide +kernel))
theorem zm967 : Cond.selects RX8 yX8_clear yX8_clear ∈ wsL_law := inl_wsL_law_r41 _ (List.mem_of_getElem? (i := 7) (by decide +kernel))
theorem zm968 : Cond.code yX8_clear cX8_clear 1 none ∈ wsL_law := inl_wsL_law_r41 _ (List.mem_of_getElem? (i := 8) (by decide +kernel))
theorem zm969 : Cond.fieldLink RX8 15 "TwoPens$Trace" "all" "I" ∈ wsL_law := inl_wsL_law_r41 _ (List.mem_of_getElem? (i := 9) (by decide +kernel))
theorem zm970 : Cond.methodLink RX11 229 ⟨"TwoPens$Line", "writes", "(ILTwoPens$Trace;)I"⟩ ∈ wsL_law := inl_wsL_law_r41 _ (List.mem_of_getElem? (i := 10) (by decide +kernel))
theorem zm971 : Cond.sameMethod "TwoPens$Line" "TwoPens$Line" "writes" "(ILTwoPens$Trace;)I" ∈ wsL_law := inl_wsL_law_r41 _ (List.mem_of_getElem? (i := 11) (by decide +kernel))
theorem zm972 : Cond.selects RX0 ⟨"TwoPens$Line", "writes", "(ILTwoPens$Trace;)I"⟩ yX4_writes ∈ wsL_law := inl_wsL_law_r41 _ (List.mem_of_getElem? (i := 12) (by decide +kernel))
theorem zm973 : Cond.instanceMethod yX4_writes ∈ wsL_law := inl_wsL_law_r41 _ (List.mem_of_getElem? (i := 13) (by decide +kernel))
theorem zm974 : Cond.code yX4_writes cX4_writes 3 (some .int) ∈ wsL_law := inl_wsL_law_r41 _ (List.mem_of_getElem? (i := 14) (by decide +kernel))
theorem zm975 : Cond.methodLink RX4 22 yX8_ran ∈ wsL_law := inl_wsL_law_r41 _ (List.mem_of_getElem? (i := 15) (by decide +kernel))
theorem zm976 : Cond.instanceMethod yX8_ran ∈ wsL_law := inl_wsL_law_r41 _ (List.mem_of_getElem? (i := 16) (by decide +kernel))
theorem zm977 : Cond.selects RX8 yX8_ran yX8_ran ∈ wsL_law := inl_wsL_law_r41 _ (List.mem_of_getElem? (i := 17) (by decide +kernel))
theorem zm978 : Cond.code yX8_ran cX8_ran 2 none ∈ wsL_law := inl_wsL_law_r41 _ (List.mem_of_getElem? (i := 18) (by decide +kernel))
theorem zm979 : Cond.instanceMethod ⟨"TwoPens$Line", "writes", "(ILTwoPens$Trace;)I"⟩ ∈ wsL_law := inl_wsL_law_r41 _ (List.mem_of_getElem? (i := 19) (by decide +kernel))
theorem zm980 : Cond.selects RX1 ⟨"TwoPens$Line", "writes", "(ILTwoPens$Trace;)I"⟩ yX1_writes ∈ wsL_law := inl_wsL_law_r41 _ (List.mem_of_getElem? (i := 20) (by decide +kernel))
theorem zm981 : Cond.instanceMethod yX1_writes ∈ wsL_law := inl_wsL_law_r41 _ (List.mem_of_getElem? (i := 21) (by decide +kernel))
theorem zm982 : Cond.code yX1_writes cX1_writes 3 (some .int) ∈ wsL_law := inl_wsL_law_r41 _ (List.mem_of_getElem? (i := 22) (by decide +kernel))
theorem zm983 : Cond.fieldLink RX1 21 "TwoPens$Copied" "number" "I" ∈ wsL_law := inl_wsL_law_r41 _ (List.mem_of_getElem? (i := 23) (by decide +kernel))
theorem zm984 : Cond.sameField "TwoPens$Copied" "TwoPens$Line" "number" "I" ∈ wsL_law := inl_wsL_law_r42 _ (List.mem_of_getElem? (i := 0) (by decide +kernel))
theorem zm985 : Cond.methodLink RX1 11 yX8_ran ∈ wsL_law := inl_wsL_law_r42 _ (List.mem_of_getElem? (i := 1) (by decide +kernel))
theorem zm986 : Cond.selects RX3 ⟨"TwoPens$Line", "writes", "(ILTwoPens$Trace;)I"⟩ yX4_writes ∈ wsL_law := inl_wsL_law_r42 _ (List.mem_of_getElem? (i := 2) (by decide +kernel))
theorem zm987 : Cond.methodLink RX11 229 yX4_writes ∈ wsL_law := inl_wsL_law_r42 _ (List.mem_of_getElem? (i := 3) (by decide +kernel))
theorem zm988 : Cond.selects RX4 yX4_writes yX4_writes ∈ wsL_law := inl_wsL_law_r42 _ (List.mem_of_getElem? (i := 4) (by decide +kernel))
theorem zm989 : Cond.selects RX7 ⟨"TwoPens$Line", "writes", "(ILTwoPens$Trace;)I"⟩ yX4_writes ∈ wsL_law := inl_wsL_law_r42 _ (List.mem_of_getElem? (i := 5) (by decide +kernel))
theorem zm990 : Cond.selects RX9 ⟨"TwoPens$Line", "writes", "(ILTwoPens$Trace;)I"⟩ yX10_writes ∈ wsL_law := inl_wsL_law_r42 _ (List.mem_of_getElem? (i := 6) (by decide +kernel))
theorem zm991 : Cond.instanceMethod yX10_writes ∈ wsL_law := inl_wsL_law_r42 _ (List.mem_of_getElem? (i := 7) (by decide +kernel))
theorem zm992 : Cond.code yX10_writes cX10_writes 3 (some .int) ∈ wsL_law := inl_wsL_law_r42 _ (List.mem_of_getElem? (i := 8) (by decide +kernel))
theorem zm993 : Cond.methodLink RX10 16 yX8_ran ∈ wsL_law := inl_wsL_law_r42 _ (List.mem_of_getElem? (i := 9) (by decide +kernel))
theorem zm994 : Cond.methodLink RX10 22 yX4_writes ∈ wsL_law := inl_wsL_law_r42 _ (List.mem_of_getElem? (i := 10) (by decide +kernel))
theorem zm995 : Cond.superclass RX10 RX4 ∈ wsL_law := inl_wsL_law_r42 _ (List.mem_of_getElem? (i := 11) (by decide +kernel))
theorem zm996 : Cond.selects RX10 ⟨"TwoPens$Line", "writes", "(ILTwoPens$Trace;)I"⟩ yX10_writes ∈ wsL_law := inl_wsL_law_r42 _ (List.mem_of_getElem? (i := 12) (by decide +kernel))
theorem zm997 : Cond.methodLink RX11 233 ⟨"TwoPens$Line", "shows", "(ILTwoPens$Trace;)I"⟩ ∈ wsL_law := inl_wsL_law_r42 _ (List.mem_of_getElem? (i := 13) (by decide +kernel))
theorem zm998 : Cond.sameMethod "TwoPens$Line" "TwoPens$Line" "shows" "(ILTwoPens$Trace;)I" ∈ wsL_law := inl_wsL_law_r42 _ (List.mem_of_getElem? (i := 14) (by decide +kernel))
theorem zm999 : Cond.instanceMethod ⟨"TwoPens$Line", "shows", "(ILTwoPens$Trace;)I"⟩ ∈ wsL_law := inl_wsL_law_r42 _ (List.mem_of_getElem? (i := 15) (by decide +kernel))
theorem zm1000 : Cond.selects RX0 ⟨"TwoPens$Line", "shows", "(ILTwoPens$Trace;)I"⟩ yX0_shows ∈ wsL_law := inl_wsL_law_r42 _ (List.mem_of_getElem? (i := 16) (by decide +kernel))
theorem zm1001 : Cond.instanceMethod yX0_shows ∈ wsL_law := inl_wsL_law_r42 _ (List.mem_of_getElem? (i := 17) (by decide +kernel))
theorem zm1002 : Cond.code yX0_shows cX0_shows 3 (some .int) ∈ wsL_law := inl_wsL_law_r42 _ (List.mem_of_getElem? (i := 18) (by decide +kernel))
theorem zm1003 : Cond.methodLink RX0 16 yX8_ran ∈ wsL_law := inl_wsL_law_r42 _ (List.mem_of_getElem? (i := 19) (by decide +kernel))
theorem zm1004 : Cond.methodLink RX0 22 yX4_shows ∈ wsL_law := inl_wsL_law_r42 _ (List.mem_of_getElem? (i := 20) (by decide +kernel))
theorem zm1005 : Cond.superclass RX0 RX4 ∈ wsL_law := inl_wsL_law_r42 _ (List.mem_of_getElem? (i := 21) (by decide +kernel))
theorem zm1006 : Cond.instanceMethod yX4_shows ∈ wsL_law := inl_wsL_law_r42 _ (List.mem_of_getElem? (i := 22) (by decide +kernel))
theorem zm1007 : Cond.code yX4_shows cX4_shows 3 (some .int) ∈ wsL_law := inl_wsL_law_r42 _ (List.mem_of_getElem? (i := 23) (by decide +kernel))
theorem zm1008 : Cond.methodLink RX4 28 ⟨"TwoPens$Line", "writes", "(ILTwoPens$Trace;)I"⟩ ∈ wsL_law := inl_wsL_law_r43 _ (List.mem_of_getElem? (i := 0) (by decide +kernel))
theorem zm1009 : Cond.methodLink RX4 28 yX4_writes ∈ wsL_law := inl_wsL_law_r43 _ (List.mem_of_getElem? (i := 1) (by decide +kernel))
theorem zm1010 : Cond.selects RX1 ⟨"TwoPens$Line", "shows", "(ILTwoPens$Trace;)I"⟩ yX0_shows ∈ wsL_law := inl_wsL_law_r43 _ (List.mem_of_getElem? (i := 2) (by decide +kernel))
theorem zm1011 : Cond.selects RX3 ⟨"TwoPens$Line", "shows", "(ILTwoPens$Trace;)I"⟩ yX4_shows ∈ wsL_law := inl_wsL_law_r43 _ (List.mem_of_getElem? (i := 3) (by decide +kernel))
theorem zm1012 : Cond.methodLink RX11 233 yX4_shows ∈ wsL_law := inl_wsL_law_r43 _ (List.mem_of_getElem? (i := 4) (by decide +kernel))
theorem zm1013 : Cond.selects RX4 yX4_shows yX4_shows ∈ wsL_law := inl_wsL_law_r43 _ (List.mem_of_getElem? (i := 5) (by decide +kernel))
theorem zm1014 : Cond.selects RX7 ⟨"TwoPens$Line", "shows", "(ILTwoPens$Trace;)I"⟩ yX7_shows ∈ wsL_law := inl_wsL_law_r43 _ (List.mem_of_getElem? (i := 6) (by decide +kernel))
theorem zm1015 : Cond.instanceMethod yX7_shows ∈ wsL_law := inl_wsL_law_r43 _ (List.mem_of_getElem? (i := 7) (by decide +kernel))
theorem zm1016 : Cond.code yX7_shows cX7_shows 3 (some .int) ∈ wsL_law := inl_wsL_law_r43 _ (List.mem_of_getElem? (i := 8) (by decide +kernel))
theorem zm1017 : Cond.methodLink RX7 35 yX8_ran ∈ wsL_law := inl_wsL_law_r43 _ (List.mem_of_getElem? (i := 9) (by decide +kernel))
theorem zm1018 : Cond.selects RX9 ⟨"TwoPens$Line", "shows", "(ILTwoPens$Trace;)I"⟩ yX4_shows ∈ wsL_law := inl_wsL_law_r43 _ (List.mem_of_getElem? (i := 10) (by decide +kernel))
theorem zm1019 : Cond.selects RX10 ⟨"TwoPens$Line", "shows", "(ILTwoPens$Trace;)I"⟩ yX4_shows ∈ wsL_law := inl_wsL_law_r43 _ (List.mem_of_getElem? (i := 11) (by decide +kernel))
theorem zm1020 : Cond.methodLink RX11 236 ⟨"TwoPens$Line", "tells", "(ILTwoPens$Trace;)I"⟩ ∈ wsL_law := inl_wsL_law_r43 _ (List.mem_of_getElem? (i := 12) (by decide +kernel))
theorem zm1021 : Cond.sameMethod "TwoPens$Line" "TwoPens$Line" "tells" "(ILTwoPens$Trace;)I" ∈ wsL_law := inl_wsL_law_r43 _ (List.mem_of_getElem? (i := 13) (by decide +kernel))
theorem zm1022 : Cond.selects RX0 ⟨"TwoPens$Line", "tells", "(ILTwoPens$Trace;)I"⟩ yX4_tells ∈ wsL_law := inl_wsL_law_r43 _ (List.mem_of_getElem? (i := 14) (by decide +kernel))
theorem zm1023 : Cond.instanceMethod yX4_tells ∈ wsL_law := inl_wsL_law_r43 _ (List.mem_of_getElem? (i := 15) (by decide +kernel))
theorem zm1024 : Cond.code yX4_tells cX4_tells 3 (some .int) ∈ wsL_law := inl_wsL_law_r43 _ (List.mem_of_getElem? (i := 16) (by decide +kernel))
theorem zm1025 : Cond.methodLink RX4 32 ⟨"TwoPens$Line", "shows", "(ILTwoPens$Trace;)I"⟩ ∈ wsL_law := inl_wsL_law_r43 _ (List.mem_of_getElem? (i := 17) (by decide +kernel))
theorem zm1026 : Cond.methodLink RX4 32 yX4_shows ∈ wsL_law := inl_wsL_law_r43 _ (List.mem_of_getElem? (i := 18) (by decide +kernel))
theorem zm1027 : Cond.selects RX1 ⟨"TwoPens$Line", "tells", "(ILTwoPens$Trace;)I"⟩ yX4_tells ∈ wsL_law := inl_wsL_law_r43 _ (List.mem_of_getElem? (i := 19) (by decide +kernel))
theorem zm1028 : Cond.instanceMethod ⟨"TwoPens$Line", "tells", "(ILTwoPens$Trace;)I"⟩ ∈ wsL_law := inl_wsL_law_r43 _ (List.mem_of_getElem? (i := 20) (by decide +kernel))
theorem zm1029 : Cond.selects RX3 ⟨"TwoPens$Line", "tells", "(ILTwoPens$Trace;)I"⟩ yX3_tells ∈ wsL_law := inl_wsL_law_r43 _ (List.mem_of_getElem? (i := 21) (by decide +kernel))
theorem zm1030 : Cond.instanceMethod yX3_tells ∈ wsL_law := inl_wsL_law_r43 _ (List.mem_of_getElem? (i := 22) (by decide +kernel))
theorem zm1031 : Cond.code yX3_tells cX3_tells 3 (some .int) ∈ wsL_law := inl_wsL_law_r43 _ (List.mem_of_getElem? (i := 23) (by decide +kernel))
theorem zm1032 : Cond.methodLink RX3 13 yX8_ran ∈ wsL_law := inl_wsL_law_r44 _ (List.mem_of_getElem? (i := 0) (by decide +kernel))
theorem zm1033 : Cond.methodLink RX3 19 yX4_tells ∈ wsL_law := inl_wsL_law_r44 _ (List.mem_of_getElem? (i := 1) (by decide +kernel))
theorem zm1034 : Cond.superclass RX3 RX4 ∈ wsL_law := inl_wsL_law_r44 _ (List.mem_of_getElem? (i := 2) (by decide +kernel))
theorem zm1035 : Cond.methodLink RX11 236 yX4_tells ∈ wsL_law := inl_wsL_law_r44 _ (List.mem_of_getElem? (i := 3) (by decide +kernel))
theorem zm1036 : Cond.selects RX4 yX4_tells yX4_tells ∈ wsL_law := inl_wsL_law_r44 _ (List.mem_of_getElem? (i := 4) (by decide +kernel))
theorem zm1037 : Cond.selects RX7 ⟨"TwoPens$Line", "tells", "(ILTwoPens$Trace;)I"⟩ yX3_tells ∈ wsL_law := inl_wsL_law_r44 _ (List.mem_of_getElem? (i := 5) (by decide +kernel))
theorem zm1038 : Cond.selects RX9 ⟨"TwoPens$Line", "tells", "(ILTwoPens$Trace;)I"⟩ yX9_tells ∈ wsL_law := inl_wsL_law_r44 _ (List.mem_of_getElem? (i := 6) (by decide +kernel))
theorem zm1039 : Cond.instanceMethod yX9_tells ∈ wsL_law := inl_wsL_law_r44 _ (List.mem_of_getElem? (i := 7) (by decide +kernel))
theorem zm1040 : Cond.code yX9_tells cX9_tells 3 (some .int) ∈ wsL_law := inl_wsL_law_r44 _ (List.mem_of_getElem? (i := 8) (by decide +kernel))
theorem zm1041 : Cond.methodLink RX9 20 yX8_ran ∈ wsL_law := inl_wsL_law_r44 _ (List.mem_of_getElem? (i := 9) (by decide +kernel))
theorem zm1042 : Cond.methodLink RX9 30 ⟨"TwoPens$Triple", "writes", "(ILTwoPens$Trace;)I"⟩ ∈ wsL_law := inl_wsL_law_r44 _ (List.mem_of_getElem? (i := 10) (by decide +kernel))
theorem zm1043 : Cond.sameMethod "TwoPens$Triple" "TwoPens$Twin" "writes" "(ILTwoPens$Trace;)I" ∈ wsL_law := inl_wsL_law_r44 _ (List.mem_of_getElem? (i := 11) (by decide +kernel))
theorem zm1044 : Cond.selects RX9 ⟨"TwoPens$Triple", "writes", "(ILTwoPens$Trace;)I"⟩ yX10_writes ∈ wsL_law := inl_wsL_law_r44 _ (List.mem_of_getElem? (i := 12) (by decide +kernel))
theorem zm1045 : Cond.selects RX10 ⟨"TwoPens$Line", "tells", "(ILTwoPens$Trace;)I"⟩ yX4_tells ∈ wsL_law := inl_wsL_law_r44 _ (List.mem_of_getElem? (i := 13) (by decide +kernel))
theorem zm1046 : Cond.methodLink RL 141 yX12_act ∈ wsL_law := inl_wsL_law_r44 _ (List.mem_of_getElem? (i := 14) (by decide +kernel))
theorem zm1047 : Cond.instanceMethod yX12_act ∈ wsL_law := inl_wsL_law_r44 _ (List.mem_of_getElem? (i := 15) (by decide +kernel))
theorem zm1048 : Cond.selects RX12 yX12_act yX12_act ∈ wsL_law := inl_wsL_law_r44 _ (List.mem_of_getElem? (i := 16) (by decide +kernel))
theorem zm1049 : Cond.code yX12_act cX12_act 4 (some .int) ∈ wsL_law := inl_wsL_law_r44 _ (List.mem_of_getElem? (i := 17) (by decide +kernel))
theorem zm1050 : Cond.fieldLink RX12 223 "TwoPensModel" "ran" "I" ∈ wsL_law := inl_wsL_law_r44 _ (List.mem_of_getElem? (i := 18) (by decide +kernel))
theorem zm1051 : Cond.fieldLink RX12 232 "TwoPensModel" "kind" "I" ∈ wsL_law := inl_wsL_law_r44 _ (List.mem_of_getElem? (i := 19) (by decide +kernel))
theorem zm1052 : Cond.fieldLink RX12 229 "TwoPensModel" "number" "I" ∈ wsL_law := inl_wsL_law_r44 _ (List.mem_of_getElem? (i := 20) (by decide +kernel))
theorem zm1053 : Cond.fieldLink RX12 244 "TwoPensModel" "tellsV" "I" ∈ wsL_law := inl_wsL_law_r44 _ (List.mem_of_getElem? (i := 21) (by decide +kernel))
theorem zm1054 : Cond.methodLink RX12 241 yX12_writesActs ∈ wsL_law := inl_wsL_law_r44 _ (List.mem_of_getElem? (i := 22) (by decide +kernel))
theorem zm1055 : Cond.instanceMethod yX12_writesActs ∈ wsL_law := inl_wsL_law_r44 _ (List.mem_of_getElem? (i := 23) (by decide +kernel))
theorem zm1056 : Cond.selects RX12 yX12_writesActs yX12_writesActs ∈ wsL_law := inl_wsL_law_r45 _ (List.mem_of_getElem? (i := 0) (by decide +kernel))
theorem zm1057 : Cond.code yX12_writesActs cX12_writesActs 2 (some .int) ∈ wsL_law := inl_wsL_law_r45 _ (List.mem_of_getElem? (i := 1) (by decide +kernel))
theorem zm1058 : Cond.methodLink RX12 235 yX12_isUnder ∈ wsL_law := inl_wsL_law_r45 _ (List.mem_of_getElem? (i := 2) (by decide +kernel))
theorem zm1059 : Cond.static yX12_isUnder ∈ wsL_law := inl_wsL_law_r45 _ (List.mem_of_getElem? (i := 3) (by decide +kernel))
theorem zm1060 : Cond.code yX12_isUnder cX12_isUnder 2 (some .boolean) ∈ wsL_law := inl_wsL_law_r45 _ (List.mem_of_getElem? (i := 4) (by decide +kernel))
theorem zm1061 : Cond.methodLink RX12 226 yX12_ranBody ∈ wsL_law := inl_wsL_law_r45 _ (List.mem_of_getElem? (i := 5) (by decide +kernel))
theorem zm1062 : Cond.instanceMethod yX12_ranBody ∈ wsL_law := inl_wsL_law_r45 _ (List.mem_of_getElem? (i := 6) (by decide +kernel))
theorem zm1063 : Cond.selects RX12 yX12_ranBody yX12_ranBody ∈ wsL_law := inl_wsL_law_r45 _ (List.mem_of_getElem? (i := 7) (by decide +kernel))
theorem zm1064 : Cond.code yX12_ranBody cX12_ranBody 2 none ∈ wsL_law := inl_wsL_law_r45 _ (List.mem_of_getElem? (i := 8) (by decide +kernel))
theorem zm1065 : Cond.methodLink RX12 238 yX12_plainWrites ∈ wsL_law := inl_wsL_law_r45 _ (List.mem_of_getElem? (i := 9) (by decide +kernel))
theorem zm1066 : Cond.instanceMethod yX12_plainWrites ∈ wsL_law := inl_wsL_law_r45 _ (List.mem_of_getElem? (i := 10) (by decide +kernel))
theorem zm1067 : Cond.selects RX12 yX12_plainWrites yX12_plainWrites ∈ wsL_law := inl_wsL_law_r45 _ (List.mem_of_getElem? (i := 11) (by decide +kernel))
theorem zm1068 : Cond.code yX12_plainWrites cX12_plainWrites 2 (some .int) ∈ wsL_law := inl_wsL_law_r45 _ (List.mem_of_getElem? (i := 12) (by decide +kernel))
theorem zm1069 : Cond.methodLink RX12 250 yX12_showsActs ∈ wsL_law := inl_wsL_law_r45 _ (List.mem_of_getElem? (i := 13) (by decide +kernel))
theorem zm1070 : Cond.instanceMethod yX12_showsActs ∈ wsL_law := inl_wsL_law_r45 _ (List.mem_of_getElem? (i := 14) (by decide +kernel))
theorem zm1071 : Cond.selects RX12 yX12_showsActs yX12_showsActs ∈ wsL_law := inl_wsL_law_r45 _ (List.mem_of_getElem? (i := 15) (by decide +kernel))
theorem zm1072 : Cond.code yX12_showsActs cX12_showsActs 2 (some .int) ∈ wsL_law := inl_wsL_law_r45 _ (List.mem_of_getElem? (i := 16) (by decide +kernel))
theorem zm1073 : Cond.methodLink RX12 247 yX12_plainShows ∈ wsL_law := inl_wsL_law_r45 _ (List.mem_of_getElem? (i := 17) (by decide +kernel))
theorem zm1074 : Cond.instanceMethod yX12_plainShows ∈ wsL_law := inl_wsL_law_r45 _ (List.mem_of_getElem? (i := 18) (by decide +kernel))
theorem zm1075 : Cond.selects RX12 yX12_plainShows yX12_plainShows ∈ wsL_law := inl_wsL_law_r45 _ (List.mem_of_getElem? (i := 19) (by decide +kernel))
theorem zm1076 : Cond.code yX12_plainShows cX12_plainShows 2 (some .int) ∈ wsL_law := inl_wsL_law_r45 _ (List.mem_of_getElem? (i := 20) (by decide +kernel))
theorem zm1077 : Cond.methodLink RX12 256 yX12_tellsActs ∈ wsL_law := inl_wsL_law_r45 _ (List.mem_of_getElem? (i := 21) (by decide +kernel))
theorem zm1078 : Cond.instanceMethod yX12_tellsActs ∈ wsL_law := inl_wsL_law_r45 _ (List.mem_of_getElem? (i := 22) (by decide +kernel))
theorem zm1079 : Cond.selects RX12 yX12_tellsActs yX12_tellsActs ∈ wsL_law := inl_wsL_law_r45 _ (List.mem_of_getElem? (i := 23) (by decide +kernel))
theorem zm1080 : Cond.code yX12_tellsActs cX12_tellsActs 3 (some .int) ∈ wsL_law := inl_wsL_law_r46 _ (List.mem_of_getElem? (i := 0) (by decide +kernel))
theorem zm1081 : Cond.methodLink RX12 253 yX12_plainTells ∈ wsL_law := inl_wsL_law_r46 _ (List.mem_of_getElem? (i := 1) (by decide +kernel))
theorem zm1082 : Cond.instanceMethod yX12_plainTells ∈ wsL_law := inl_wsL_law_r46 _ (List.mem_of_getElem? (i := 2) (by decide +kernel))
theorem zm1083 : Cond.selects RX12 yX12_plainTells yX12_plainTells ∈ wsL_law := inl_wsL_law_r46 _ (List.mem_of_getElem? (i := 3) (by decide +kernel))
theorem zm1084 : Cond.code yX12_plainTells cX12_plainTells 2 (some .int) ∈ wsL_law := inl_wsL_law_r46 _ (List.mem_of_getElem? (i := 4) (by decide +kernel))
theorem zm1085 : Cond.methodLink RL 142 yX11_trace ∈ wsL_law := inl_wsL_law_r46 _ (List.mem_of_getElem? (i := 5) (by decide +kernel))
theorem zm1086 : Cond.instanceMethod yX11_trace ∈ wsL_law := inl_wsL_law_r46 _ (List.mem_of_getElem? (i := 6) (by decide +kernel))
theorem zm1087 : Cond.selects RX11 yX11_trace yX11_trace ∈ wsL_law := inl_wsL_law_r46 _ (List.mem_of_getElem? (i := 7) (by decide +kernel))
theorem zm1088 : Cond.code yX11_trace cX11_trace 2 (some .int) ∈ wsL_law := inl_wsL_law_r46 _ (List.mem_of_getElem? (i := 8) (by decide +kernel))
theorem zm1089 : Cond.methodLink RX11 239 yX8_bodyAt ∈ wsL_law := inl_wsL_law_r46 _ (List.mem_of_getElem? (i := 9) (by decide +kernel))
theorem zm1090 : Cond.instanceMethod yX8_bodyAt ∈ wsL_law := inl_wsL_law_r46 _ (List.mem_of_getElem? (i := 10) (by decide +kernel))
theorem zm1091 : Cond.selects RX8 yX8_bodyAt yX8_bodyAt ∈ wsL_law := inl_wsL_law_r46 _ (List.mem_of_getElem? (i := 11) (by decide +kernel))
theorem zm1092 : Cond.code yX8_bodyAt cX8_bodyAt 2 (some .int) ∈ wsL_law := inl_wsL_law_r46 _ (List.mem_of_getElem? (i := 12) (by decide +kernel))
theorem zm1093 : Cond.methodLink RL 145 yX12_trace ∈ wsL_law := inl_wsL_law_r46 _ (List.mem_of_getElem? (i := 13) (by decide +kernel))
theorem zm1094 : Cond.instanceMethod yX12_trace ∈ wsL_law := inl_wsL_law_r46 _ (List.mem_of_getElem? (i := 14) (by decide +kernel))
theorem zm1095 : Cond.selects RX12 yX12_trace yX12_trace ∈ wsL_law := inl_wsL_law_r46 _ (List.mem_of_getElem? (i := 15) (by decide +kernel))
theorem zm1096 : Cond.code yX12_trace cX12_trace 2 (some .int) ∈ wsL_law := inl_wsL_law_r46 _ (List.mem_of_getElem? (i := 16) (by decide +kernel))
theorem zm1097 : Cond.methodLink RL 146 yX11_as ∈ wsL_law := inl_wsL_law_r46 _ (List.mem_of_getElem? (i := 17) (by decide +kernel))
theorem zm1098 : Cond.instanceMethod yX11_as ∈ wsL_law := inl_wsL_law_r46 _ (List.mem_of_getElem? (i := 18) (by decide +kernel))
theorem zm1099 : Cond.selects RX11 yX11_as yX11_as ∈ wsL_law := inl_wsL_law_r46 _ (List.mem_of_getElem? (i := 19) (by decide +kernel))
theorem zm1100 : Cond.code yX11_as cX11_as 4 (some .int) ∈ wsL_law := inl_wsL_law_r46 _ (List.mem_of_getElem? (i := 20) (by decide +kernel))
theorem zm1101 : Cond.methodLink RX11 242 yX11_isUnder ∈ wsL_law := inl_wsL_law_r46 _ (List.mem_of_getElem? (i := 21) (by decide +kernel))
theorem zm1102 : Cond.static yX11_isUnder ∈ wsL_law := inl_wsL_law_r46 _ (List.mem_of_getElem? (i := 22) (by decide +kernel))
theorem zm1103 : Cond.code yX11_isUnder cX11_isUnder 2 (some .boolean) ∈ wsL_law := inl_wsL_law_r46 _ (List.mem_of_getElem? (i := 23) (by decide +kernel))
theorem zm1104 : Cond.classLink RX11 270 "TwoPens$Twin" ∈ wsL_law := inl_wsL_law_r47 _ (List.mem_of_getElem? (i := 0) (by decide +kernel))
theorem zm1105 : Cond.classLink RX11 275 "TwoPens$Column" ∈ wsL_law := inl_wsL_law_r47 _ (List.mem_of_getElem? (i := 1) (by decide +kernel))
theorem zm1106 : Cond.classLink RX11 278 "TwoPens$Lent" ∈ wsL_law := inl_wsL_law_r47 _ (List.mem_of_getElem? (i := 2) (by decide +kernel))
theorem zm1107 : Cond.classLink RX11 281 "TwoPens$Triple" ∈ wsL_law := inl_wsL_law_r47 _ (List.mem_of_getElem? (i := 3) (by decide +kernel))
theorem zm1108 : Cond.classLink RX11 286 "TwoPens$Copied" ∈ wsL_law := inl_wsL_law_r47 _ (List.mem_of_getElem? (i := 4) (by decide +kernel))
theorem zm1109 : Cond.methodLink RL 149 yX12_as ∈ wsL_law := inl_wsL_law_r47 _ (List.mem_of_getElem? (i := 5) (by decide +kernel))
theorem zm1110 : Cond.instanceMethod yX12_as ∈ wsL_law := inl_wsL_law_r47 _ (List.mem_of_getElem? (i := 6) (by decide +kernel))
theorem zm1111 : Cond.selects RX12 yX12_as yX12_as ∈ wsL_law := inl_wsL_law_r47 _ (List.mem_of_getElem? (i := 7) (by decide +kernel))
theorem zm1112 : Cond.code yX12_as cX12_as 3 (some .int) ∈ wsL_law := inl_wsL_law_r47 _ (List.mem_of_getElem? (i := 8) (by decide +kernel))
theorem zm1113 : Cond.methodLink RL 150 yX11_image ∈ wsL_law := inl_wsL_law_r47 _ (List.mem_of_getElem? (i := 9) (by decide +kernel))
theorem zm1114 : Cond.instanceMethod yX11_image ∈ wsL_law := inl_wsL_law_r47 _ (List.mem_of_getElem? (i := 10) (by decide +kernel))
theorem zm1115 : Cond.selects RX11 yX11_image yX11_image ∈ wsL_law := inl_wsL_law_r47 _ (List.mem_of_getElem? (i := 11) (by decide +kernel))
theorem zm1116 : Cond.code yX11_image cX11_image 1 (some .int) ∈ wsL_law := inl_wsL_law_r47 _ (List.mem_of_getElem? (i := 12) (by decide +kernel))
theorem zm1117 : Cond.fieldLink RX11 250 "TwoPens" "keptOne" "Z" ∈ wsL_law := inl_wsL_law_r47 _ (List.mem_of_getElem? (i := 13) (by decide +kernel))
theorem zm1118 : Cond.methodLink RX11 246 yX2_copyAll ∈ wsL_law := inl_wsL_law_r47 _ (List.mem_of_getElem? (i := 14) (by decide +kernel))
theorem zm1119 : Cond.instanceMethod yX2_copyAll ∈ wsL_law := inl_wsL_law_r47 _ (List.mem_of_getElem? (i := 15) (by decide +kernel))
theorem zm1120 : Cond.selects RX2 yX2_copyAll yX2_copyAll ∈ wsL_law := inl_wsL_law_r47 _ (List.mem_of_getElem? (i := 16) (by decide +kernel))
theorem zm1121 : Cond.code yX2_copyAll cX2_copyAll 3 none ∈ wsL_law := inl_wsL_law_r47 _ (List.mem_of_getElem? (i := 17) (by decide +kernel))
theorem zm1122 : Cond.fieldLink RX2 55 "TwoPens$Desk" "schools" "I" ∈ wsL_law := inl_wsL_law_r47 _ (List.mem_of_getElem? (i := 18) (by decide +kernel))
theorem zm1123 : Cond.fieldLink RX2 62 "TwoPens$Desk" "spent" "I" ∈ wsL_law := inl_wsL_law_r47 _ (List.mem_of_getElem? (i := 19) (by decide +kernel))
theorem zm1124 : Cond.fieldLink RX2 65 "TwoPens$Desk" "paid" "I" ∈ wsL_law := inl_wsL_law_r47 _ (List.mem_of_getElem? (i := 20) (by decide +kernel))
theorem zm1125 : Cond.methodLink RX2 58 yX5_copy ∈ wsL_law := inl_wsL_law_r47 _ (List.mem_of_getElem? (i := 21) (by decide +kernel))
theorem zm1126 : Cond.instanceMethod yX5_copy ∈ wsL_law := inl_wsL_law_r47 _ (List.mem_of_getElem? (i := 22) (by decide +kernel))
theorem zm1127 : Cond.selects RX5 yX5_copy yX5_copy ∈ wsL_law := inl_wsL_law_r47 _ (List.mem_of_getElem? (i := 23) (by decide +kernel))
theorem zm1128 : Cond.code yX5_copy cX5_copy 3 none ∈ wsL_law := inl_wsL_law_r48 _ (List.mem_of_getElem? (i := 0) (by decide +kernel))
theorem zm1129 : Cond.methodLink RX5 27 yX5_clear ∈ wsL_law := inl_wsL_law_r48 _ (List.mem_of_getElem? (i := 1) (by decide +kernel))
theorem zm1130 : Cond.methodLink RX5 30 yX5_add ∈ wsL_law := inl_wsL_law_r48 _ (List.mem_of_getElem? (i := 2) (by decide +kernel))
theorem zm1131 : Cond.methodLink RL 153 yX12_image ∈ wsL_law := inl_wsL_law_r48 _ (List.mem_of_getElem? (i := 3) (by decide +kernel))
theorem zm1132 : Cond.instanceMethod yX12_image ∈ wsL_law := inl_wsL_law_r48 _ (List.mem_of_getElem? (i := 4) (by decide +kernel))
theorem zm1133 : Cond.selects RX12 yX12_image yX12_image ∈ wsL_law := inl_wsL_law_r48 _ (List.mem_of_getElem? (i := 5) (by decide +kernel))
theorem zm1134 : Cond.code yX12_image cX12_image 2 (some .int) ∈ wsL_law := inl_wsL_law_r48 _ (List.mem_of_getElem? (i := 6) (by decide +kernel))
theorem zm1135 : Cond.fieldLink RX12 259 "TwoPensModel" "hasImage" "Z" ∈ wsL_law := inl_wsL_law_r48 _ (List.mem_of_getElem? (i := 7) (by decide +kernel))
theorem zm1136 : Cond.methodLink RL 154 yX11_undo ∈ wsL_law := inl_wsL_law_r48 _ (List.mem_of_getElem? (i := 8) (by decide +kernel))
theorem zm1137 : Cond.instanceMethod yX11_undo ∈ wsL_law := inl_wsL_law_r48 _ (List.mem_of_getElem? (i := 9) (by decide +kernel))
theorem zm1138 : Cond.selects RX11 yX11_undo yX11_undo ∈ wsL_law := inl_wsL_law_r48 _ (List.mem_of_getElem? (i := 10) (by decide +kernel))
theorem zm1139 : Cond.code yX11_undo cX11_undo 1 (some .int) ∈ wsL_law := inl_wsL_law_r48 _ (List.mem_of_getElem? (i := 11) (by decide +kernel))
theorem zm1140 : Cond.methodLink RL 157 yX12_undo ∈ wsL_law := inl_wsL_law_r48 _ (List.mem_of_getElem? (i := 12) (by decide +kernel))
theorem zm1141 : Cond.instanceMethod yX12_undo ∈ wsL_law := inl_wsL_law_r48 _ (List.mem_of_getElem? (i := 13) (by decide +kernel))
theorem zm1142 : Cond.selects RX12 yX12_undo yX12_undo ∈ wsL_law := inl_wsL_law_r48 _ (List.mem_of_getElem? (i := 14) (by decide +kernel))
theorem zm1143 : Cond.code yX12_undo cX12_undo 2 (some .int) ∈ wsL_law := inl_wsL_law_r48 _ (List.mem_of_getElem? (i := 15) (by decide +kernel))
theorem zm1144 : Cond.methodLink RL 158 yX11_count ∈ wsL_law := inl_wsL_law_r48 _ (List.mem_of_getElem? (i := 16) (by decide +kernel))
theorem zm1145 : Cond.instanceMethod yX11_count ∈ wsL_law := inl_wsL_law_r48 _ (List.mem_of_getElem? (i := 17) (by decide +kernel))
theorem zm1146 : Cond.selects RX11 yX11_count yX11_count ∈ wsL_law := inl_wsL_law_r48 _ (List.mem_of_getElem? (i := 18) (by decide +kernel))
theorem zm1147 : Cond.code yX11_count cX11_count 2 (some .int) ∈ wsL_law := inl_wsL_law_r48 _ (List.mem_of_getElem? (i := 19) (by decide +kernel))
theorem zm1148 : Cond.fieldLink RX11 254 "TwoPens$Trace" "all" "I" ∈ wsL_law := inl_wsL_law_r48 _ (List.mem_of_getElem? (i := 20) (by decide +kernel))
theorem zm1149 : Cond.methodLink RL 161 yX12_count ∈ wsL_law := inl_wsL_law_r48 _ (List.mem_of_getElem? (i := 21) (by decide +kernel))
theorem zm1150 : Cond.instanceMethod yX12_count ∈ wsL_law := inl_wsL_law_r48 _ (List.mem_of_getElem? (i := 22) (by decide +kernel))
theorem zm1151 : Cond.selects RX12 yX12_count yX12_count ∈ wsL_law := inl_wsL_law_r48 _ (List.mem_of_getElem? (i := 23) (by decide +kernel))
theorem zm1152 : Cond.code yX12_count cX12_count 2 (some .int) ∈ wsL_law := inl_wsL_law_r49 _ (List.mem_of_getElem? (i := 0) (by decide +kernel))
