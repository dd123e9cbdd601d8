/-! ===== BEGIN words of one list among another's, by their places ===== -/
theorem goodIn_r {big : List Cond} (ws : List Cond) (ps : List Nat) (hp : ws = ps.filterMap (fun i => big[i]?)) (h : ws.all goodWord = true) : GoodIn big ws := by
  intro w hw
  have h1 := List.all_eq_true.mp h w hw
  rw [hp] at hw
  obtain ⟨i, -, hi⟩ := List.mem_filterMap.mp hw
  have hm : w ∈ big := by first | exact List.mem_of_getElem? hi | exact List.getElem?_mem hi
  exact ⟨hm, good_of_word h1⟩
theorem goodIn_app {big a b : List Cond} (ha : GoodIn big a) (hb : GoodIn big b) : GoodIn big (a ++ b) := fun w h => (List.mem_append.mp h).elim (ha w) (hb w)
theorem goodIn_ca {big a b : List Cond} {c : Cond} (ha : GoodIn big (c :: a)) (hb : GoodIn big b) : GoodIn big (c :: (a ++ b)) := fun w h => (List.mem_cons.mp h).elim (fun e => ha w (List.mem_cons.mpr (Or.inl e))) (fun h => (List.mem_append.mp h).elim (fun h => ha w (List.mem_cons.mpr (Or.inr h))) (hb w))
theorem goodIn_sub {big ws : List Cond} (hm : ∀ w ∈ ws, w ∈ big) (h : ws.all goodWord = true) : GoodIn big ws := fun w hw => ⟨hm w hw, good_of_word (List.all_eq_true.mp h w hw)⟩
/-! ===== END ===== -/

/-! ===== BEGIN printed: names, fields, word lists, decode rows ===== -/
def RX0 : String := "HiddenWorks$Claim"
def TX0 : u_T := fun k => match k with
  | 0 => ("HiddenWorks$Claim", "task", "I", false)
  | 1 => ("HiddenWorks$Claim", "steps", "I", false)
  | 2 => ("HiddenWorks$Claim", "state", "I", false)
  | _ => ("HiddenWorks$Claim", "finder", "I", false)
def tyX0 : Nat → FieldType := fun k => match k with
  | 0 => .int
  | 1 => .int
  | 2 => .int
  | _ => .int
abbrev wsX00 : List Cond := u_ws RX0 TX0 4
theorem nmX0 : ∀ a, a < 4 → ∀ b, b < 4 → a ≠ b → (TX0 a).2.1 ≠ (TX0 b).2.1 := by decide +kernel
theorem tyX0_ok : ∀ k, k < 4 → parseFieldDescriptor (TX0 k).2.2.1 = some (tyX0 k) := by decide +kernel
abbrev cX0_init : ByteArray := prog_2_method_1_code
def yX0_init : MethodName := ⟨RX0, "<init>", "()V"⟩
abbrev cX0_begin : ByteArray := prog_2_method_2_code
def yX0_begin : MethodName := ⟨RX0, "begin", "(II)V"⟩
abbrev cX0_worsen : ByteArray := prog_2_method_3_code
def yX0_worsen : MethodName := ⟨RX0, "worsen", "(II)V"⟩
abbrev cX0_become : ByteArray := prog_2_method_4_code
def yX0_become : MethodName := ⟨RX0, "become", "(LHiddenWorks$Claim;)V"⟩
def RX1 : String := "HiddenWorks$Finder"
def TX1 : u_T := fun k => match k with
  | 0 => ("HiddenWorks$Finder", "found", "I", false)
  | _ => ("HiddenWorks$Finder", "steps", "I", false)
def tyX1 : Nat → FieldType := fun k => match k with
  | 0 => .int
  | _ => .int
abbrev wsX10 : List Cond := u_ws RX1 TX1 2
theorem nmX1 : ∀ a, a < 2 → ∀ b, b < 2 → a ≠ b → (TX1 a).2.1 ≠ (TX1 b).2.1 := by decide +kernel
theorem tyX1_ok : ∀ k, k < 2 → parseFieldDescriptor (TX1 k).2.2.1 = some (tyX1 k) := by decide +kernel
abbrev cX1_init : ByteArray := prog_3_method_1_code
def yX1_init : MethodName := ⟨RX1, "<init>", "()V"⟩
abbrev cX1_seek : ByteArray := prog_3_method_2_code
def yX1_seek : MethodName := ⟨RX1, "seek", "(LHiddenWorks$Task;II)V"⟩
abbrev cX1_foundHidden : ByteArray := prog_3_method_3_code
def yX1_foundHidden : MethodName := ⟨RX1, "foundHidden", "(LHiddenWorks$Task;)Z"⟩
abbrev cX1_climb : ByteArray := prog_3_method_4_code
def yX1_climb : MethodName := ⟨RX1, "climb", "(LHiddenWorks$Task;II)V"⟩
abbrev cX1_rowAfter : ByteArray := prog_3_method_5_code
def yX1_rowAfter : MethodName := ⟨RX1, "rowAfter", "(LHiddenWorks$Task;I)I"⟩
abbrev cX1_search : ByteArray := prog_3_method_6_code
def yX1_search : MethodName := ⟨RX1, "search", "(LHiddenWorks$Task;I)V"⟩
def RX2 : String := "HiddenWorks$Kind"
def TX2 : u_T := fun k => match k with
  | _ => ("", "", "", false)
def tyX2 : Nat → FieldType := fun k => match k with
  | _ => .int
abbrev wsX20 : List Cond := u_ws RX2 TX2 0
theorem nmX2 : ∀ a, a < 0 → ∀ b, b < 0 → a ≠ b → (TX2 a).2.1 ≠ (TX2 b).2.1 := by decide +kernel
theorem tyX2_ok : ∀ k, k < 0 → parseFieldDescriptor (TX2 k).2.2.1 = some (tyX2 k) := by decide +kernel
abbrev cX2_exists : ByteArray := prog_4_method_2_code
def yX2_exists : MethodName := ⟨RX2, "exists", "(I)Z"⟩
abbrev cX2_holds : ByteArray := prog_4_method_3_code
def yX2_holds : MethodName := ⟨RX2, "holds", "(III)Z"⟩
abbrev cX2_worth : ByteArray := prog_4_method_4_code
def yX2_worth : MethodName := ⟨RX2, "worth", "(III)I"⟩
abbrev cX2_isOne : ByteArray := prog_4_method_5_code
def yX2_isOne : MethodName := ⟨RX2, "isOne", "(II)Z"⟩
def RX3 : String := "HiddenWorks$Maker"
def TX3 : u_T := fun k => match k with
  | _ => ("HiddenWorks$Maker", "lot", "J", false)
def tyX3 : Nat → FieldType := fun k => match k with
  | _ => .long
abbrev wsX30 : List Cond := u_ws RX3 TX3 1
theorem nmX3 : ∀ a, a < 1 → ∀ b, b < 1 → a ≠ b → (TX3 a).2.1 ≠ (TX3 b).2.1 := by decide +kernel
theorem tyX3_ok : ∀ k, k < 1 → parseFieldDescriptor (TX3 k).2.2.1 = some (tyX3 k) := by decide +kernel
abbrev cX3_init : ByteArray := prog_5_method_1_code
def yX3_init : MethodName := ⟨RX3, "<init>", "()V"⟩
abbrev cX3_fill : ByteArray := prog_5_method_2_code
def yX3_fill : MethodName := ⟨RX3, "fill", "(LHiddenWorks$Task;LHiddenWorks$Recipe;I)V"⟩
abbrev cX3_draw : ByteArray := prog_5_method_3_code
def yX3_draw : MethodName := ⟨RX3, "draw", "(I)I"⟩
abbrev cX3_drawLetters : ByteArray := prog_5_method_4_code
def yX3_drawLetters : MethodName := ⟨RX3, "drawLetters", "(II)I"⟩
abbrev cX3_drawTrue : ByteArray := prog_5_method_5_code
def yX3_drawTrue : MethodName := ⟨RX3, "drawTrue", "(LHiddenWorks$Recipe;I)I"⟩
abbrev cX3_trueByWay : ByteArray := prog_5_method_6_code
def yX3_trueByWay : MethodName := ⟨RX3, "trueByWay", "(IIII)I"⟩
abbrev cX3_bitAt : ByteArray := prog_5_method_7_code
def yX3_bitAt : MethodName := ⟨RX3, "bitAt", "(II)I"⟩
def RX4 : String := "HiddenWorks$Recipe"
def TX4 : u_T := fun k => match k with
  | 0 => ("HiddenWorks$Recipe", "kind", "I", false)
  | 1 => ("HiddenWorks$Recipe", "letters", "I", false)
  | 2 => ("HiddenWorks$Recipe", "clauses", "I", false)
  | 3 => ("HiddenWorks$Recipe", "wide", "I", false)
  | _ => ("HiddenWorks$Recipe", "weights", "[I", true)
def tyX4 : Nat → FieldType := fun k => match k with
  | 0 => .int
  | 1 => .int
  | 2 => .int
  | 3 => .int
  | _ => .array .int
abbrev wsX40 : List Cond := u_ws RX4 TX4 5
theorem nmX4 : ∀ a, a < 5 → ∀ b, b < 5 → a ≠ b → (TX4 a).2.1 ≠ (TX4 b).2.1 := by decide +kernel
theorem tyX4_ok : ∀ k, k < 5 → parseFieldDescriptor (TX4 k).2.2.1 = some (tyX4 k) := by decide +kernel
abbrev cX4_init : ByteArray := prog_6_method_1_code
def yX4_init : MethodName := ⟨RX4, "<init>", "()V"⟩
abbrev cX4_ways : ByteArray := prog_6_method_2_code
def yX4_ways : MethodName := ⟨RX4, "ways", "(I)I"⟩
abbrev cX4_share : ByteArray := prog_6_method_3_code
def yX4_share : MethodName := ⟨RX4, "share", "(I)I"⟩
abbrev cX4_allWays : ByteArray := prog_6_method_4_code
def yX4_allWays : MethodName := ⟨RX4, "allWays", "()I"⟩
abbrev cX4_leaning : ByteArray := prog_6_method_5_code
def yX4_leaning : MethodName := ⟨RX4, "leaning", "()I"⟩
abbrev cX4_pairCount : ByteArray := prog_6_method_6_code
def yX4_pairCount : MethodName := ⟨RX4, "pairCount", "()I"⟩
abbrev cX4_pairing : ByteArray := prog_6_method_7_code
def yX4_pairing : MethodName := ⟨RX4, "pairing", "()I"⟩
abbrev cX4_balancesWith : ByteArray := prog_6_method_8_code
def yX4_balancesWith : MethodName := ⟨RX4, "balancesWith", "(II)Z"⟩
def RX5 : String := "HiddenWorks$Sheet"
def TX5 : u_T := fun k => match k with
  | 0 => ("HiddenWorks$Sheet", "sort", "I", false)
  | 1 => ("HiddenWorks$Sheet", "size", "I", false)
  | _ => ("HiddenWorks$Sheet", "cells", "[I", true)
def tyX5 : Nat → FieldType := fun k => match k with
  | 0 => .int
  | 1 => .int
  | _ => .array .int
abbrev wsX50 : List Cond := u_ws RX5 TX5 3
theorem nmX5 : ∀ a, a < 3 → ∀ b, b < 3 → a ≠ b → (TX5 a).2.1 ≠ (TX5 b).2.1 := by decide +kernel
theorem tyX5_ok : ∀ k, k < 3 → parseFieldDescriptor (TX5 k).2.2.1 = some (tyX5 k) := by decide +kernel
abbrev cX5_init : ByteArray := prog_7_method_1_code
def yX5_init : MethodName := ⟨RX5, "<init>", "()V"⟩
abbrev cX5_begin : ByteArray := prog_7_method_2_code
def yX5_begin : MethodName := ⟨RX5, "begin", "(II)V"⟩
abbrev cX5_isMissing : ByteArray := prog_7_method_3_code
def yX5_isMissing : MethodName := ⟨RX5, "isMissing", "()Z"⟩
abbrev cX5_cut : ByteArray := prog_7_method_4_code
def yX5_cut : MethodName := ⟨RX5, "cut", "(I)I"⟩
abbrev cX5_hasRange : ByteArray := prog_7_method_5_code
def yX5_hasRange : MethodName := ⟨RX5, "hasRange", "(II)Z"⟩
abbrev cX5_isOrderOf : ByteArray := prog_7_method_6_code
def yX5_isOrderOf : MethodName := ⟨RX5, "isOrderOf", "(I)Z"⟩
abbrev cX5_renumbered : ByteArray := prog_7_method_7_code
def yX5_renumbered : MethodName := ⟨RX5, "renumbered", "(I)I"⟩
def RX6 : String := "HiddenWorks$Tape"
def TX6 : u_T := fun k => match k with
  | 0 => ("HiddenWorks$Tape", "bytes", "[I", true)
  | 1 => ("HiddenWorks$Tape", "size", "I", false)
  | 2 => ("HiddenWorks$Tape", "place", "I", false)
  | _ => ("HiddenWorks$Tape", "fault", "I", false)
def tyX6 : Nat → FieldType := fun k => match k with
  | 0 => .array .int
  | 1 => .int
  | 2 => .int
  | _ => .int
abbrev wsX60 : List Cond := u_ws RX6 TX6 4
theorem nmX6 : ∀ a, a < 4 → ∀ b, b < 4 → a ≠ b → (TX6 a).2.1 ≠ (TX6 b).2.1 := by decide +kernel
theorem tyX6_ok : ∀ k, k < 4 → parseFieldDescriptor (TX6 k).2.2.1 = some (tyX6 k) := by decide +kernel
abbrev cX6_init : ByteArray := prog_8_method_1_code
def yX6_init : MethodName := ⟨RX6, "<init>", "()V"⟩
abbrev cX6_put : ByteArray := prog_8_method_2_code
def yX6_put : MethodName := ⟨RX6, "put", "(I)V"⟩
abbrev cX6_readInto : ByteArray := prog_8_method_3_code
def yX6_readInto : MethodName := ⟨RX6, "readInto", "(LHiddenWorks$Recipe;)I"⟩
abbrev cX6_named : ByteArray := prog_8_method_4_code
def yX6_named : MethodName := ⟨RX6, "named", "(CII)I"⟩
abbrev cX6_gap : ByteArray := prog_8_method_5_code
def yX6_gap : MethodName := ⟨RX6, "gap", "()V"⟩
abbrev cX6_number : ByteArray := prog_8_method_6_code
def yX6_number : MethodName := ⟨RX6, "number", "(II)I"⟩
abbrev cX6_byteHere : ByteArray := prog_8_method_7_code
def yX6_byteHere : MethodName := ⟨RX6, "byteHere", "()I"⟩
def RX7 : String := "HiddenWorks$Task"
def TX7 : u_T := fun k => match k with
  | 0 => ("HiddenWorks$Task", "kind", "I", false)
  | 1 => ("HiddenWorks$Task", "letters", "I", false)
  | 2 => ("HiddenWorks$Task", "clauses", "I", false)
  | 3 => ("HiddenWorks$Task", "hidden", "I", false)
  | 4 => ("HiddenWorks$Task", "recipe", "I", false)
  | 5 => ("HiddenWorks$Task", "seed", "I", false)
  | 6 => ("HiddenWorks$Task", "plain", "[I", true)
  | _ => ("HiddenWorks$Task", "against", "[I", true)
def tyX7 : Nat → FieldType := fun k => match k with
  | 0 => .int
  | 1 => .int
  | 2 => .int
  | 3 => .int
  | 4 => .int
  | 5 => .int
  | 6 => .array .int
  | _ => .array .int
abbrev wsX70 : List Cond := u_ws RX7 TX7 8
theorem nmX7 : ∀ a, a < 8 → ∀ b, b < 8 → a ≠ b → (TX7 a).2.1 ≠ (TX7 b).2.1 := by decide +kernel
theorem tyX7_ok : ∀ k, k < 8 → parseFieldDescriptor (TX7 k).2.2.1 = some (tyX7 k) := by decide +kernel
abbrev cX7_init : ByteArray := prog_9_method_1_code
def yX7_init : MethodName := ⟨RX7, "<init>", "()V"⟩
abbrev cX7_begin : ByteArray := prog_9_method_2_code
def yX7_begin : MethodName := ⟨RX7, "begin", "(II)V"⟩
abbrev cX7_addClause : ByteArray := prog_9_method_3_code
def yX7_addClause : MethodName := ⟨RX7, "addClause", "(II)V"⟩
abbrev cX7_rows : ByteArray := prog_9_method_4_code
def yX7_rows : MethodName := ⟨RX7, "rows", "()I"⟩
abbrev cX7_trueOnes : ByteArray := prog_9_method_5_code
def yX7_trueOnes : MethodName := ⟨RX7, "trueOnes", "(II)I"⟩
abbrev cX7_width : ByteArray := prog_9_method_6_code
def yX7_width : MethodName := ⟨RX7, "width", "(I)I"⟩
abbrev cX7_holds : ByteArray := prog_9_method_7_code
def yX7_holds : MethodName := ⟨RX7, "holds", "(II)Z"⟩
abbrev cX7_brokenFrom : ByteArray := prog_9_method_8_code
def yX7_brokenFrom : MethodName := ⟨RX7, "brokenFrom", "(II)I"⟩
abbrev cX7_isSolvedBy : ByteArray := prog_9_method_9_code
def yX7_isSolvedBy : MethodName := ⟨RX7, "isSolvedBy", "(I)Z"⟩
abbrev cX7_holdsSoFar : ByteArray := prog_9_method_10_code
def yX7_holdsSoFar : MethodName := ⟨RX7, "holdsSoFar", "(II)Z"⟩
abbrev cX7_countAnswers : ByteArray := prog_9_method_11_code
def yX7_countAnswers : MethodName := ⟨RX7, "countAnswers", "(II)I"⟩
abbrev cX7_tallyAnswers : ByteArray := prog_9_method_12_code
def yX7_tallyAnswers : MethodName := ⟨RX7, "tallyAnswers", "([I)I"⟩
abbrev cX7_excess : ByteArray := prog_9_method_13_code
def yX7_excess : MethodName := ⟨RX7, "excess", "(I)I"⟩
abbrev cX7_countsRow : ByteArray := prog_9_method_14_code
def yX7_countsRow : MethodName := ⟨RX7, "countsRow", "()I"⟩
abbrev cX7_sign : ByteArray := prog_9_method_15_code
def yX7_sign : MethodName := ⟨RX7, "sign", "()I"⟩
abbrev cX7_gainByTurning : ByteArray := prog_9_method_16_code
def yX7_gainByTurning : MethodName := ⟨RX7, "gainByTurning", "(II)I"⟩
def RX8 : String := "HiddenWorks"
def TX8 : u_T := fun k => match k with
  | 0 => ("HiddenWorks", "tape", "LHiddenWorks$Tape;", true)
  | 1 => ("HiddenWorks", "recipes", "[LHiddenWorks$Recipe;", true)
  | 2 => ("HiddenWorks", "tasks", "[LHiddenWorks$Task;", true)
  | 3 => ("HiddenWorks", "claims", "[LHiddenWorks$Claim;", true)
  | 4 => ("HiddenWorks", "sheets", "[LHiddenWorks$Sheet;", true)
  | 5 => ("HiddenWorks", "maker", "LHiddenWorks$Maker;", true)
  | 6 => ("HiddenWorks", "finder", "LHiddenWorks$Finder;", true)
  | 7 => ("HiddenWorks", "heaped", "LHiddenWorks$Task;", true)
  | 8 => ("HiddenWorks", "firstSigns", "[I", true)
  | 9 => ("HiddenWorks", "secondSigns", "[I", true)
  | 10 => ("HiddenWorks", "trueAnswers", "[I", true)
  | 11 => ("HiddenWorks", "recipeCount", "I", false)
  | 12 => ("HiddenWorks", "taskCount", "I", false)
  | 13 => ("HiddenWorks", "claimCount", "I", false)
  | _ => ("HiddenWorks", "tasksInImage", "I", false)
def tyX8 : Nat → FieldType := fun k => match k with
  | 0 => .object "HiddenWorks$Tape"
  | 1 => .array (.object "HiddenWorks$Recipe")
  | 2 => .array (.object "HiddenWorks$Task")
  | 3 => .array (.object "HiddenWorks$Claim")
  | 4 => .array (.object "HiddenWorks$Sheet")
  | 5 => .object "HiddenWorks$Maker"
  | 6 => .object "HiddenWorks$Finder"
  | 7 => .object "HiddenWorks$Task"
  | 8 => .array .int
  | 9 => .array .int
  | 10 => .array .int
  | 11 => .int
  | 12 => .int
  | 13 => .int
  | _ => .int
abbrev wsX80 : List Cond := u_ws RX8 TX8 15
theorem nmX8 : ∀ a, a < 15 → ∀ b, b < 15 → a ≠ b → (TX8 a).2.1 ≠ (TX8 b).2.1 := by decide +kernel
theorem tyX8_ok : ∀ k, k < 15 → parseFieldDescriptor (TX8 k).2.2.1 = some (tyX8 k) := by decide +kernel
abbrev cX8_init : ByteArray := prog_1_method_1_code
def yX8_init : MethodName := ⟨RX8, "<init>", "()V"⟩
abbrev cX8_feed : ByteArray := prog_1_method_2_code
def yX8_feed : MethodName := ⟨RX8, "feed", "(JI)I"⟩
abbrev cX8_recipe : ByteArray := prog_1_method_3_code
def yX8_recipe : MethodName := ⟨RX8, "recipe", "()I"⟩
abbrev cX8_recipeTold : ByteArray := prog_1_method_4_code
def yX8_recipeTold : MethodName := ⟨RX8, "recipeTold", "(II)I"⟩
abbrev cX8_make : ByteArray := prog_1_method_5_code
def yX8_make : MethodName := ⟨RX8, "make", "(II)I"⟩
abbrev cX8_wild : ByteArray := prog_1_method_6_code
def yX8_wild : MethodName := ⟨RX8, "wild", "(III)I"⟩
abbrev cX8_areClauses : ByteArray := prog_1_method_7_code
def yX8_areClauses : MethodName := ⟨RX8, "areClauses", "(LHiddenWorks$Sheet;I)Z"⟩
abbrev cX8_taskTold : ByteArray := prog_1_method_8_code
def yX8_taskTold : MethodName := ⟨RX8, "taskTold", "(II)I"⟩
abbrev cX8_clauseTold : ByteArray := prog_1_method_9_code
def yX8_clauseTold : MethodName := ⟨RX8, "clauseTold", "(III)I"⟩
abbrev cX8_solves : ByteArray := prog_1_method_10_code
def yX8_solves : MethodName := ⟨RX8, "solves", "(II)I"⟩
abbrev cX8_answers : ByteArray := prog_1_method_11_code
def yX8_answers : MethodName := ⟨RX8, "answers", "(III)I"⟩
abbrev cX8_answer : ByteArray := prog_1_method_12_code
def yX8_answer : MethodName := ⟨RX8, "answer", "(II)I"⟩
abbrev cX8_nearest : ByteArray := prog_1_method_13_code
def yX8_nearest : MethodName := ⟨RX8, "nearest", "(II)I"⟩
abbrev cX8_hint : ByteArray := prog_1_method_14_code
def yX8_hint : MethodName := ⟨RX8, "hint", "(I)I"⟩
abbrev cX8_needed : ByteArray := prog_1_method_15_code
def yX8_needed : MethodName := ⟨RX8, "needed", "(I)I"⟩
abbrev cX8_lean : ByteArray := prog_1_method_16_code
def yX8_lean : MethodName := ⟨RX8, "lean", "(II)I"⟩
abbrev cX8_leans : ByteArray := prog_1_method_17_code
def yX8_leans : MethodName := ⟨RX8, "leans", "(II)J"⟩
abbrev cX8_pairs : ByteArray := prog_1_method_18_code
def yX8_pairs : MethodName := ⟨RX8, "pairs", "(II)J"⟩
abbrev cX8_partInLowestTerms : ByteArray := prog_1_method_19_code
def yX8_partInLowestTerms : MethodName := ⟨RX8, "partInLowestTerms", "(III)J"⟩
abbrev cX8_greatestShared : ByteArray := prog_1_method_20_code
def yX8_greatestShared : MethodName := ⟨RX8, "greatestShared", "(II)I"⟩
abbrev cX8_balance : ByteArray := prog_1_method_21_code
def yX8_balance : MethodName := ⟨RX8, "balance", "(I)I"⟩
abbrev cX8_find : ByteArray := prog_1_method_22_code
def yX8_find : MethodName := ⟨RX8, "find", "(IIII)I"⟩
abbrev cX8_heap : ByteArray := prog_1_method_23_code
def yX8_heap : MethodName := ⟨RX8, "heap", "(IIIIII)I"⟩
abbrev cX8_apart : ByteArray := prog_1_method_24_code
def yX8_apart : MethodName := ⟨RX8, "apart", "(IIIII)I"⟩
abbrev cX8_rightBy : ByteArray := prog_1_method_25_code
def yX8_rightBy : MethodName := ⟨RX8, "rightBy", "(II)I"⟩
abbrev cX8_twin : ByteArray := prog_1_method_26_code
def yX8_twin : MethodName := ⟨RX8, "twin", "(III)I"⟩
abbrev cX8_claim : ByteArray := prog_1_method_27_code
def yX8_claim : MethodName := ⟨RX8, "claim", "(II)I"⟩
abbrev cX8_tries : ByteArray := prog_1_method_28_code
def yX8_tries : MethodName := ⟨RX8, "tries", "(II)I"⟩
abbrev cX8_claimTold : ByteArray := prog_1_method_29_code
def yX8_claimTold : MethodName := ⟨RX8, "claimTold", "(II)I"⟩
abbrev cX8_kindTold : ByteArray := prog_1_method_30_code
def yX8_kindTold : MethodName := ⟨RX8, "kindTold", "(IIII)I"⟩
abbrev cX8_count : ByteArray := prog_1_method_31_code
def yX8_count : MethodName := ⟨RX8, "count", "(I)I"⟩
abbrev cX8_image : ByteArray := prog_1_method_32_code
def yX8_image : MethodName := ⟨RX8, "image", "()I"⟩
abbrev cX8_back : ByteArray := prog_1_method_33_code
def yX8_back : MethodName := ⟨RX8, "back", "()I"⟩
abbrev cX8_sheet : ByteArray := prog_1_method_34_code
def yX8_sheet : MethodName := ⟨RX8, "sheet", "(III)I"⟩
abbrev cX8_cell : ByteArray := prog_1_method_35_code
def yX8_cell : MethodName := ⟨RX8, "cell", "(III)I"⟩
abbrev cX8_copy : ByteArray := prog_1_method_36_code
def yX8_copy : MethodName := ⟨RX8, "copy", "(IIIII)I"⟩
abbrev cX8_claims : ByteArray := prog_1_method_37_code
def yX8_claims : MethodName := ⟨RX8, "claims", "(IIII)I"⟩
abbrev cX8_taken : ByteArray := prog_1_method_38_code
def yX8_taken : MethodName := ⟨RX8, "taken", "(III)I"⟩
abbrev cX8_taskTaken : ByteArray := prog_1_method_39_code
def yX8_taskTaken : MethodName := ⟨RX8, "taskTaken", "(LHiddenWorks$Task;I)I"⟩
abbrev cX8_recipeAt : ByteArray := prog_1_method_40_code
def yX8_recipeAt : MethodName := ⟨RX8, "recipeAt", "(I)LHiddenWorks$Recipe;"⟩
abbrev cX8_taskAt : ByteArray := prog_1_method_41_code
def yX8_taskAt : MethodName := ⟨RX8, "taskAt", "(I)LHiddenWorks$Task;"⟩
abbrev cX8_claimAt : ByteArray := prog_1_method_42_code
def yX8_claimAt : MethodName := ⟨RX8, "claimAt", "(I)LHiddenWorks$Claim;"⟩
abbrev cX8_keepTask : ByteArray := prog_1_method_43_code
def yX8_keepTask : MethodName := ⟨RX8, "keepTask", "()I"⟩
abbrev cX8_isSheet : ByteArray := prog_1_method_44_code
def yX8_isSheet : MethodName := ⟨RX8, "isSheet", "(I)Z"⟩
abbrev cX8_isFinder : ByteArray := prog_1_method_45_code
def yX8_isFinder : MethodName := ⟨RX8, "isFinder", "(I)Z"⟩
abbrev cX8_isRow : ByteArray := prog_1_method_46_code
def yX8_isRow : MethodName := ⟨RX8, "isRow", "(II)Z"⟩
abbrev cX8_isHeap : ByteArray := prog_1_method_47_code
def yX8_isHeap : MethodName := ⟨RX8, "isHeap", "(II)Z"⟩
def RX9 : String := "HiddenWorksModel"
def TX9 : u_T := fun k => match k with
  | 0 => ("HiddenWorksModel", "tape", "[I", true)
  | 1 => ("HiddenWorksModel", "taped", "I", false)
  | 2 => ("HiddenWorksModel", "recipes", "I", false)
  | 3 => ("HiddenWorksModel", "rKind", "[I", true)
  | 4 => ("HiddenWorksModel", "rLetters", "[I", true)
  | 5 => ("HiddenWorksModel", "rClauses", "[I", true)
  | 6 => ("HiddenWorksModel", "rWide", "[I", true)
  | 7 => ("HiddenWorksModel", "rWeight", "[I", true)
  | 8 => ("HiddenWorksModel", "tasks", "I", false)
  | 9 => ("HiddenWorksModel", "kind", "[I", true)
  | 10 => ("HiddenWorksModel", "letters", "[I", true)
  | 11 => ("HiddenWorksModel", "clauses", "[I", true)
  | 12 => ("HiddenWorksModel", "hidden", "[I", true)
  | 13 => ("HiddenWorksModel", "recipeOf", "[I", true)
  | 14 => ("HiddenWorksModel", "seedOf", "[I", true)
  | 15 => ("HiddenWorksModel", "plain", "[I", true)
  | 16 => ("HiddenWorksModel", "against", "[I", true)
  | 17 => ("HiddenWorksModel", "claims", "I", false)
  | 18 => ("HiddenWorksModel", "claimTask", "[I", true)
  | 19 => ("HiddenWorksModel", "claimSteps", "[I", true)
  | 20 => ("HiddenWorksModel", "claimState", "[I", true)
  | 21 => ("HiddenWorksModel", "claimBy", "[I", true)
  | 22 => ("HiddenWorksModel", "hasImage", "Z", false)
  | 23 => ("HiddenWorksModel", "imaged", "I", false)
  | 24 => ("HiddenWorksModel", "sheetSort", "[I", true)
  | 25 => ("HiddenWorksModel", "sheetSize", "[I", true)
  | 26 => ("HiddenWorksModel", "cells", "[I", true)
  | 27 => ("HiddenWorksModel", "at", "I", false)
  | 28 => ("HiddenWorksModel", "lot", "J", false)
  | 29 => ("HiddenWorksModel", "chosen", "[I", true)
  | 30 => ("HiddenWorksModel", "steps", "I", false)
  | _ => ("HiddenWorksModel", "signs", "[I", true)
def tyX9 : Nat → FieldType := fun k => match k with
  | 0 => .array .int
  | 1 => .int
  | 2 => .int
  | 3 => .array .int
  | 4 => .array .int
  | 5 => .array .int
  | 6 => .array .int
  | 7 => .array .int
  | 8 => .int
  | 9 => .array .int
  | 10 => .array .int
  | 11 => .array .int
  | 12 => .array .int
  | 13 => .array .int
  | 14 => .array .int
  | 15 => .array .int
  | 16 => .array .int
  | 17 => .int
  | 18 => .array .int
  | 19 => .array .int
  | 20 => .array .int
  | 21 => .array .int
  | 22 => .boolean
  | 23 => .int
  | 24 => .array .int
  | 25 => .array .int
  | 26 => .array .int
  | 27 => .int
  | 28 => .long
  | 29 => .array .int
  | 30 => .int
  | _ => .array .int
abbrev wsX90 : List Cond := u_ws RX9 TX9 32
theorem nmX9 : ∀ a, a < 32 → ∀ b, b < 32 → a ≠ b → (TX9 a).2.1 ≠ (TX9 b).2.1 := by decide +kernel
theorem tyX9_ok : ∀ k, k < 32 → parseFieldDescriptor (TX9 k).2.2.1 = some (tyX9 k) := by decide +kernel
abbrev cX9_init : ByteArray := prog_11_method_1_code
def yX9_init : MethodName := ⟨RX9, "<init>", "()V"⟩
abbrev cX9_in : ByteArray := prog_11_method_3_code
def yX9_in : MethodName := ⟨RX9, "in", "(III)Z"⟩
abbrev cX9_ones : ByteArray := prog_11_method_4_code
def yX9_ones : MethodName := ⟨RX9, "ones", "(I)I"⟩
abbrev cX9_holds : ByteArray := prog_11_method_5_code
def yX9_holds : MethodName := ⟨RX9, "holds", "(III)Z"⟩
abbrev cX9_worth : ByteArray := prog_11_method_6_code
def yX9_worth : MethodName := ⟨RX9, "worth", "(III)I"⟩
abbrev cX9_kindTold : ByteArray := prog_11_method_7_code
def yX9_kindTold : MethodName := ⟨RX9, "kindTold", "(IIII)I"⟩
abbrev cX9_feed : ByteArray := prog_11_method_8_code
def yX9_feed : MethodName := ⟨RX9, "feed", "(JI)I"⟩
abbrev cX9_here : ByteArray := prog_11_method_9_code
def yX9_here : MethodName := ⟨RX9, "here", "()I"⟩
abbrev cX9_number : ByteArray := prog_11_method_10_code
def yX9_number : MethodName := ⟨RX9, "number", "(II)I"⟩
abbrev cX9_blanks : ByteArray := prog_11_method_11_code
def yX9_blanks : MethodName := ⟨RX9, "blanks", "()Z"⟩
abbrev cX9_part : ByteArray := prog_11_method_12_code
def yX9_part : MethodName := ⟨RX9, "part", "(III)I"⟩
abbrev cX9_reads : ByteArray := prog_11_method_13_code
def yX9_reads : MethodName := ⟨RX9, "reads", "(I)Z"⟩
abbrev cX9_recipe : ByteArray := prog_11_method_14_code
def yX9_recipe : MethodName := ⟨RX9, "recipe", "()I"⟩
abbrev cX9_isRecipe : ByteArray := prog_11_method_15_code
def yX9_isRecipe : MethodName := ⟨RX9, "isRecipe", "(I)Z"⟩
abbrev cX9_recipeTold : ByteArray := prog_11_method_16_code
def yX9_recipeTold : MethodName := ⟨RX9, "recipeTold", "(II)I"⟩
abbrev cX9_ways : ByteArray := prog_11_method_17_code
def yX9_ways : MethodName := ⟨RX9, "ways", "(II)I"⟩
abbrev cX9_all : ByteArray := prog_11_method_18_code
def yX9_all : MethodName := ⟨RX9, "all", "(I)I"⟩
abbrev cX9_draw : ByteArray := prog_11_method_19_code
def yX9_draw : MethodName := ⟨RX9, "draw", "(I)I"⟩
abbrev cX9_choose : ByteArray := prog_11_method_20_code
def yX9_choose : MethodName := ⟨RX9, "choose", "(II)V"⟩
abbrev cX9_truths : ByteArray := prog_11_method_21_code
def yX9_truths : MethodName := ⟨RX9, "truths", "(I)I"⟩
abbrev cX9_makes : ByteArray := prog_11_method_22_code
def yX9_makes : MethodName := ⟨RX9, "makes", "(III)V"⟩
abbrev cX9_make : ByteArray := prog_11_method_23_code
def yX9_make : MethodName := ⟨RX9, "make", "(II)I"⟩
abbrev cX9_wild : ByteArray := prog_11_method_24_code
def yX9_wild : MethodName := ⟨RX9, "wild", "(III)I"⟩
abbrev cX9_isTask : ByteArray := prog_11_method_25_code
def yX9_isTask : MethodName := ⟨RX9, "isTask", "(I)Z"⟩
abbrev cX9_taskTold : ByteArray := prog_11_method_26_code
def yX9_taskTold : MethodName := ⟨RX9, "taskTold", "(II)I"⟩
abbrev cX9_clauseTold : ByteArray := prog_11_method_27_code
def yX9_clauseTold : MethodName := ⟨RX9, "clauseTold", "(III)I"⟩
abbrev cX9_is : ByteArray := prog_11_method_28_code
def yX9_is : MethodName := ⟨RX9, "is", "(II)I"⟩
abbrev cX9_wide : ByteArray := prog_11_method_29_code
def yX9_wide : MethodName := ⟨RX9, "wide", "(I)I"⟩
abbrev cX9_firstBroken : ByteArray := prog_11_method_30_code
def yX9_firstBroken : MethodName := ⟨RX9, "firstBroken", "(II)I"⟩
abbrev cX9_doesSolve : ByteArray := prog_11_method_31_code
def yX9_doesSolve : MethodName := ⟨RX9, "doesSolve", "(II)Z"⟩
abbrev cX9_isRow : ByteArray := prog_11_method_32_code
def yX9_isRow : MethodName := ⟨RX9, "isRow", "(II)Z"⟩
abbrev cX9_solves : ByteArray := prog_11_method_33_code
def yX9_solves : MethodName := ⟨RX9, "solves", "(II)I"⟩
abbrev cX9_answersOf : ByteArray := prog_11_method_34_code
def yX9_answersOf : MethodName := ⟨RX9, "answersOf", "(III)I"⟩
abbrev cX9_answers : ByteArray := prog_11_method_35_code
def yX9_answers : MethodName := ⟨RX9, "answers", "(III)I"⟩
abbrev cX9_answer : ByteArray := prog_11_method_36_code
def yX9_answer : MethodName := ⟨RX9, "answer", "(II)I"⟩
abbrev cX9_nearest : ByteArray := prog_11_method_37_code
def yX9_nearest : MethodName := ⟨RX9, "nearest", "(II)I"⟩
abbrev cX9_hint : ByteArray := prog_11_method_38_code
def yX9_hint : MethodName := ⟨RX9, "hint", "(I)I"⟩
abbrev cX9_needed : ByteArray := prog_11_method_39_code
def yX9_needed : MethodName := ⟨RX9, "needed", "(I)I"⟩
abbrev cX9_more : ByteArray := prog_11_method_40_code
def yX9_more : MethodName := ⟨RX9, "more", "(II)I"⟩
abbrev cX9_lean : ByteArray := prog_11_method_41_code
def yX9_lean : MethodName := ⟨RX9, "lean", "(II)I"⟩
abbrev cX9_lowest : ByteArray := prog_11_method_42_code
def yX9_lowest : MethodName := ⟨RX9, "lowest", "(JJI)J"⟩
abbrev cX9_leanSum : ByteArray := prog_11_method_43_code
def yX9_leanSum : MethodName := ⟨RX9, "leanSum", "(I)I"⟩
abbrev cX9_leans : ByteArray := prog_11_method_44_code
def yX9_leans : MethodName := ⟨RX9, "leans", "(II)J"⟩
abbrev cX9_pairs : ByteArray := prog_11_method_45_code
def yX9_pairs : MethodName := ⟨RX9, "pairs", "(II)J"⟩
abbrev cX9_balance : ByteArray := prog_11_method_46_code
def yX9_balance : MethodName := ⟨RX9, "balance", "(I)I"⟩
abbrev cX9_countsRow : ByteArray := prog_11_method_47_code
def yX9_countsRow : MethodName := ⟨RX9, "countsRow", "(I)I"⟩
abbrev cX9_worthOf : ByteArray := prog_11_method_48_code
def yX9_worthOf : MethodName := ⟨RX9, "worthOf", "(II)I"⟩
abbrev cX9_climbs : ByteArray := prog_11_method_49_code
def yX9_climbs : MethodName := ⟨RX9, "climbs", "(III)I"⟩
abbrev cX9_mayBe : ByteArray := prog_11_method_50_code
def yX9_mayBe : MethodName := ⟨RX9, "mayBe", "(III)Z"⟩
abbrev cX9_searches : ByteArray := prog_11_method_51_code
def yX9_searches : MethodName := ⟨RX9, "searches", "(II)I"⟩
abbrev cX9_finds : ByteArray := prog_11_method_52_code
def yX9_finds : MethodName := ⟨RX9, "finds", "(III)I"⟩
abbrev cX9_find : ByteArray := prog_11_method_53_code
def yX9_find : MethodName := ⟨RX9, "find", "(IIII)I"⟩
abbrev cX9_areSeeds : ByteArray := prog_11_method_54_code
def yX9_areSeeds : MethodName := ⟨RX9, "areSeeds", "(II)Z"⟩
abbrev cX9_heap : ByteArray := prog_11_method_55_code
def yX9_heap : MethodName := ⟨RX9, "heap", "(IIIIII)I"⟩
abbrev cX9_signOf : ByteArray := prog_11_method_56_code
def yX9_signOf : MethodName := ⟨RX9, "signOf", "(II)I"⟩
abbrev cX9_rightBy : ByteArray := prog_11_method_57_code
def yX9_rightBy : MethodName := ⟨RX9, "rightBy", "(II)I"⟩
abbrev cX9_apart : ByteArray := prog_11_method_58_code
def yX9_apart : MethodName := ⟨RX9, "apart", "(IIIII)I"⟩
abbrev cX9_moved : ByteArray := prog_11_method_59_code
def yX9_moved : MethodName := ⟨RX9, "moved", "(III)I"⟩
abbrev cX9_twin : ByteArray := prog_11_method_60_code
def yX9_twin : MethodName := ⟨RX9, "twin", "(III)I"⟩
abbrev cX9_claim : ByteArray := prog_11_method_61_code
def yX9_claim : MethodName := ⟨RX9, "claim", "(II)I"⟩
abbrev cX9_isClaim : ByteArray := prog_11_method_62_code
def yX9_isClaim : MethodName := ⟨RX9, "isClaim", "(I)Z"⟩
abbrev cX9_tries : ByteArray := prog_11_method_63_code
def yX9_tries : MethodName := ⟨RX9, "tries", "(II)I"⟩
abbrev cX9_claimTold : ByteArray := prog_11_method_64_code
def yX9_claimTold : MethodName := ⟨RX9, "claimTold", "(II)I"⟩
abbrev cX9_count : ByteArray := prog_11_method_65_code
def yX9_count : MethodName := ⟨RX9, "count", "(I)I"⟩
abbrev cX9_image : ByteArray := prog_11_method_66_code
def yX9_image : MethodName := ⟨RX9, "image", "()I"⟩
abbrev cX9_back : ByteArray := prog_11_method_67_code
def yX9_back : MethodName := ⟨RX9, "back", "()I"⟩
abbrev cX9_sheet : ByteArray := prog_11_method_68_code
def yX9_sheet : MethodName := ⟨RX9, "sheet", "(III)I"⟩
abbrev cX9_cell : ByteArray := prog_11_method_69_code
def yX9_cell : MethodName := ⟨RX9, "cell", "(III)I"⟩
abbrev cX9_copy : ByteArray := prog_11_method_70_code
def yX9_copy : MethodName := ⟨RX9, "copy", "(IIIII)I"⟩
abbrev cX9_claims : ByteArray := prog_11_method_71_code
def yX9_claims : MethodName := ⟨RX9, "claims", "(IIII)I"⟩
abbrev cX9_isUnder : ByteArray := prog_11_method_72_code
def yX9_isUnder : MethodName := ⟨RX9, "isUnder", "(II)Z"⟩
abbrev cX9_taken : ByteArray := prog_11_method_73_code
def yX9_taken : MethodName := ⟨RX9, "taken", "(III)I"⟩
def RJ6 : String := "java/lang/Integer"
def TJ6 : u_T := fun k => match k with
  | _ => ("", "", "", false)
def tyJ6 : Nat → FieldType := fun k => match k with
  | _ => .int
abbrev wsJ60 : List Cond := u_ws RJ6 TJ6 0
theorem nmJ6 : ∀ a, a < 0 → ∀ b, b < 0 → a ≠ b → (TJ6 a).2.1 ≠ (TJ6 b).2.1 := by decide +kernel
theorem tyJ6_ok : ∀ k, k < 0 → parseFieldDescriptor (TJ6 k).2.2.1 = some (tyJ6 k) := by decide +kernel
abbrev cJ6_bitCount_0f7a4 : ByteArray := prog_12_method_49_code
def yJ6_bitCount_0f7a4 : MethodName := ⟨RJ6, "bitCount", "(I)I"⟩
def RJ9 : String := "java/lang/Math"
def TJ9 : u_T := fun k => match k with
  | _ => ("", "", "", false)
def tyJ9 : Nat → FieldType := fun k => match k with
  | _ => .int
abbrev wsJ90 : List Cond := u_ws RJ9 TJ9 0
theorem nmJ9 : ∀ a, a < 0 → ∀ b, b < 0 → a ≠ b → (TJ9 a).2.1 ≠ (TJ9 b).2.1 := by decide +kernel
theorem tyJ9_ok : ∀ k, k < 0 → parseFieldDescriptor (TJ9 k).2.2.1 = some (tyJ9 k) := by decide +kernel
abbrev cJ9_abs_0f7a4 : ByteArray := prog_13_method_59_code
def yJ9_abs_0f7a4 : MethodName := ⟨RJ9, "abs", "(I)I"⟩
abbrev cJ9_min_7cf53 : ByteArray := prog_13_method_69_code
def yJ9_min_7cf53 : MethodName := ⟨RJ9, "min", "(II)I"⟩
def RJ10 : String := "java/lang/System"
def TJ10 : u_T := fun k => match k with
  | _ => ("", "", "", false)
def tyJ10 : Nat → FieldType := fun k => match k with
  | _ => .int
abbrev wsJ100 : List Cond := u_ws RJ10 TJ10 0
theorem nmJ10 : ∀ a, a < 0 → ∀ b, b < 0 → a ≠ b → (TJ10 a).2.1 ≠ (TJ10 b).2.1 := by decide +kernel
theorem tyJ10_ok : ∀ k, k < 0 → parseFieldDescriptor (TJ10 k).2.2.1 = some (tyJ10 k) := by decide +kernel
def RJ7 : String := "java/util/Arrays"
def TJ7 : u_T := fun k => match k with
  | _ => ("", "", "", false)
def tyJ7 : Nat → FieldType := fun k => match k with
  | _ => .int
abbrev wsJ70 : List Cond := u_ws RJ7 TJ7 0
theorem nmJ7 : ∀ a, a < 0 → ∀ b, b < 0 → a ≠ b → (TJ7 a).2.1 ≠ (TJ7 b).2.1 := by decide +kernel
theorem tyJ7_ok : ∀ k, k < 0 → parseFieldDescriptor (TJ7 k).2.2.1 = some (tyJ7 k) := by decide +kernel
abbrev cJ7_fill_53178 : ByteArray := prog_15_method_103_code
def yJ7_fill_53178 : MethodName := ⟨RJ7, "fill", "([II)V"⟩
def RL : String := "HiddenWorksLaw"
def wsX0_init : List Cond := .code yX0_init cX0_init 1 none :: ([.methodLink RX0 3 objectInit, .instanceMethod objectInit, .code objectInit ⟨#[0xb1]⟩ 1 none])
def wsX0_begin : List Cond := .code yX0_begin cX0_begin 3 none :: ([.fieldLink RX0 9 "HiddenWorks$Claim" "task" "I", .fieldLink RX0 15 "HiddenWorks$Claim" "steps" "I", .fieldLink RX0 18 "HiddenWorks$Claim" "state" "I", .fieldLink RX0 21 "HiddenWorks$Claim" "finder" "I"] ++ wsX00)
def wsX0_worsen : List Cond := .code yX0_worsen cX0_worsen 3 none :: ([.fieldLink RX0 18 "HiddenWorks$Claim" "state" "I", .fieldLink RX0 21 "HiddenWorks$Claim" "finder" "I"] ++ wsX00)
def wsX0_become : List Cond := .code yX0_become cX0_become 2 none :: ([.fieldLink RX0 9 "HiddenWorks$Claim" "task" "I", .fieldLink RX0 15 "HiddenWorks$Claim" "steps" "I", .fieldLink RX0 18 "HiddenWorks$Claim" "state" "I", .fieldLink RX0 21 "HiddenWorks$Claim" "finder" "I"] ++ wsX00)
def wsX1_init : List Cond := .code yX1_init cX1_init 1 none :: ([.methodLink RX1 1 objectInit, .instanceMethod objectInit, .code objectInit ⟨#[0xb1]⟩ 1 none])
def wsX7_excess : List Cond := .code yX7_excess cX7_excess 4 (some .int) :: ([.fieldLink RX7 25 "HiddenWorks$Task" "clauses" "I", .fieldLink RX7 9 "HiddenWorks$Task" "plain" "[I", .fieldLink RX7 15 "HiddenWorks$Task" "against" "[I"] ++ wsX70)
def wsX7_countsRow : List Cond := .code yX7_countsRow cX7_countsRow 3 (some .int) :: ([.fieldLink RX7 22 "HiddenWorks$Task" "letters" "I", .methodLink RX7 76 yX7_excess, .instanceMethod yX7_excess, .selects RX7 yX7_excess yX7_excess, .initialized RX7, .code yX7_excess cX7_excess 4 (some .int), .fieldLink RX7 25 "HiddenWorks$Task" "clauses" "I", .fieldLink RX7 9 "HiddenWorks$Task" "plain" "[I", .fieldLink RX7 15 "HiddenWorks$Task" "against" "[I"] ++ wsX70)
def wsJ6_bitCount_0f7a4 : List Cond := .code yJ6_bitCount_0f7a4 cJ6_bitCount_0f7a4 1 (some .int) :: ([.constant RJ6 265 (1431655765), .constant RJ6 266 (858993459), .constant RJ6 267 (252645135)])
def wsX7_trueOnes : List Cond := .code yX7_trueOnes cX7_trueOnes 3 (some .int) :: ([.fieldLink RX7 9 "HiddenWorks$Task" "plain" "[I", .fieldLink RX7 15 "HiddenWorks$Task" "against" "[I", .methodLink RX7 37 yJ6_bitCount_0f7a4, .static yJ6_bitCount_0f7a4, .initialized RJ6, .code yJ6_bitCount_0f7a4 cJ6_bitCount_0f7a4 1 (some .int), .constant RJ6 265 (1431655765), .constant RJ6 266 (858993459), .constant RJ6 267 (252645135)] ++ wsX70)
def wsX7_width : List Cond := .code yX7_width cX7_width 2 (some .int) :: ([.fieldLink RX7 9 "HiddenWorks$Task" "plain" "[I", .fieldLink RX7 15 "HiddenWorks$Task" "against" "[I", .methodLink RX7 37 yJ6_bitCount_0f7a4, .static yJ6_bitCount_0f7a4, .initialized RJ6, .code yJ6_bitCount_0f7a4 cJ6_bitCount_0f7a4 1 (some .int), .constant RJ6 265 (1431655765), .constant RJ6 266 (858993459), .constant RJ6 267 (252645135)] ++ wsX70)
def wsX2_holds : List Cond := .code yX2_holds cX2_holds 3 (some .boolean) :: ([])
def wsX7_holds : List Cond := .code yX7_holds cX7_holds 3 (some .boolean) :: ([.fieldLink RX7 18 "HiddenWorks$Task" "kind" "I", .methodLink RX7 43 yX7_trueOnes, .instanceMethod yX7_trueOnes, .selects RX7 yX7_trueOnes yX7_trueOnes, .initialized RX7, .code yX7_trueOnes cX7_trueOnes 3 (some .int), .fieldLink RX7 9 "HiddenWorks$Task" "plain" "[I", .fieldLink RX7 15 "HiddenWorks$Task" "against" "[I", .methodLink RX7 37 yJ6_bitCount_0f7a4, .static yJ6_bitCount_0f7a4, .initialized RJ6, .code yJ6_bitCount_0f7a4 cJ6_bitCount_0f7a4 1 (some .int), .constant RJ6 265 (1431655765), .constant RJ6 266 (858993459), .constant RJ6 267 (252645135), .methodLink RX7 47 yX7_width, .instanceMethod yX7_width, .selects RX7 yX7_width yX7_width, .code yX7_width cX7_width 2 (some .int), .methodLink RX7 50 yX2_holds, .static yX2_holds, .initialized RX2, .code yX2_holds cX2_holds 3 (some .boolean)] ++ wsX70)
def wsX7_brokenFrom_r1 : List Cond := [Cond.fieldLink RX7 25 "HiddenWorks$Task" "clauses" "I", Cond.methodLink RX7 56 yX7_holds, Cond.instanceMethod yX7_holds, Cond.selects RX7 yX7_holds yX7_holds, Cond.initialized RX7, Cond.code yX7_holds cX7_holds 3 (some .boolean), Cond.fieldLink RX7 18 "HiddenWorks$Task" "kind" "I", Cond.methodLink RX7 43 yX7_trueOnes, Cond.instanceMethod yX7_trueOnes, Cond.selects RX7 yX7_trueOnes yX7_trueOnes, Cond.code yX7_trueOnes cX7_trueOnes 3 (some .int), Cond.fieldLink RX7 9 "HiddenWorks$Task" "plain" "[I", Cond.fieldLink RX7 15 "HiddenWorks$Task" "against" "[I", Cond.methodLink RX7 37 yJ6_bitCount_0f7a4, Cond.static yJ6_bitCount_0f7a4, Cond.initialized RJ6, Cond.code yJ6_bitCount_0f7a4 cJ6_bitCount_0f7a4 1 (some .int), Cond.constant RJ6 265 (1431655765), Cond.constant RJ6 266 (858993459), Cond.constant RJ6 267 (252645135), Cond.methodLink RX7 47 yX7_width, Cond.instanceMethod yX7_width, Cond.selects RX7 yX7_width yX7_width, Cond.code yX7_width cX7_width 2 (some .int)]
def wsX7_brokenFrom_r2 : List Cond := [Cond.methodLink RX7 50 yX2_holds, Cond.static yX2_holds, Cond.initialized RX2, Cond.code yX2_holds cX2_holds 3 (some .boolean)]
def wsX7_brokenFrom : List Cond := .code yX7_brokenFrom cX7_brokenFrom 4 (some .int) :: ((wsX7_brokenFrom_r1 ++ wsX7_brokenFrom_r2) ++ wsX70)
def wsX7_isSolvedBy_r1 : List Cond := [Cond.methodLink RX7 59 yX7_brokenFrom, Cond.instanceMethod yX7_brokenFrom, Cond.selects RX7 yX7_brokenFrom yX7_brokenFrom, Cond.initialized RX7, Cond.code yX7_brokenFrom cX7_brokenFrom 4 (some .int), Cond.fieldLink RX7 25 "HiddenWorks$Task" "clauses" "I", Cond.methodLink RX7 56 yX7_holds, Cond.instanceMethod yX7_holds, Cond.selects RX7 yX7_holds yX7_holds, Cond.code yX7_holds cX7_holds 3 (some .boolean), Cond.fieldLink RX7 18 "HiddenWorks$Task" "kind" "I", Cond.methodLink RX7 43 yX7_trueOnes, Cond.instanceMethod yX7_trueOnes, Cond.selects RX7 yX7_trueOnes yX7_trueOnes, Cond.code yX7_trueOnes cX7_trueOnes 3 (some .int), Cond.fieldLink RX7 9 "HiddenWorks$Task" "plain" "[I", Cond.fieldLink RX7 15 "HiddenWorks$Task" "against" "[I", Cond.methodLink RX7 37 yJ6_bitCount_0f7a4, Cond.static yJ6_bitCount_0f7a4, Cond.initialized RJ6, Cond.code yJ6_bitCount_0f7a4 cJ6_bitCount_0f7a4 1 (some .int), Cond.constant RJ6 265 (1431655765), Cond.constant RJ6 266 (858993459), Cond.constant RJ6 267 (252645135)]
def wsX7_isSolvedBy_r2 : List Cond := [Cond.methodLink RX7 47 yX7_width, Cond.instanceMethod yX7_width, Cond.selects RX7 yX7_width yX7_width, Cond.code yX7_width cX7_width 2 (some .int), Cond.methodLink RX7 50 yX2_holds, Cond.static yX2_holds, Cond.initialized RX2, Cond.code yX2_holds cX2_holds 3 (some .boolean)]
def wsX7_isSolvedBy : List Cond := .code yX7_isSolvedBy cX7_isSolvedBy 2 (some .boolean) :: ((wsX7_isSolvedBy_r1 ++ wsX7_isSolvedBy_r2) ++ wsX70)
def wsX7_rows : List Cond := .code yX7_rows cX7_rows 1 (some .int) :: ([.fieldLink RX7 22 "HiddenWorks$Task" "letters" "I"] ++ wsX70)
def wsX2_worth : List Cond := .code yX2_worth cX2_worth 4 (some .int) :: ([.methodLink RX2 9 yX2_holds, .static yX2_holds, .initialized RX2, .code yX2_holds cX2_holds 3 (some .boolean)])
def wsX7_gainByTurning_r1 : List Cond := [Cond.fieldLink RX7 25 "HiddenWorks$Task" "clauses" "I", Cond.fieldLink RX7 9 "HiddenWorks$Task" "plain" "[I", Cond.fieldLink RX7 15 "HiddenWorks$Task" "against" "[I", Cond.fieldLink RX7 18 "HiddenWorks$Task" "kind" "I", Cond.methodLink RX7 47 yX7_width, Cond.instanceMethod yX7_width, Cond.selects RX7 yX7_width yX7_width, Cond.initialized RX7, Cond.code yX7_width cX7_width 2 (some .int), Cond.methodLink RX7 37 yJ6_bitCount_0f7a4, Cond.static yJ6_bitCount_0f7a4, Cond.initialized RJ6, Cond.code yJ6_bitCount_0f7a4 cJ6_bitCount_0f7a4 1 (some .int), Cond.constant RJ6 265 (1431655765), Cond.constant RJ6 266 (858993459), Cond.constant RJ6 267 (252645135), Cond.methodLink RX7 43 yX7_trueOnes, Cond.instanceMethod yX7_trueOnes, Cond.selects RX7 yX7_trueOnes yX7_trueOnes, Cond.code yX7_trueOnes cX7_trueOnes 3 (some .int), Cond.methodLink RX7 79 yX2_worth, Cond.static yX2_worth, Cond.initialized RX2, Cond.code yX2_worth cX2_worth 4 (some .int)]
def wsX7_gainByTurning_r2 : List Cond := [Cond.methodLink RX2 9 yX2_holds, Cond.static yX2_holds, Cond.code yX2_holds cX2_holds 3 (some .boolean)]
def wsX7_gainByTurning : List Cond := .code yX7_gainByTurning cX7_gainByTurning 7 (some .int) :: ((wsX7_gainByTurning_r1 ++ wsX7_gainByTurning_r2) ++ wsX70)
def wsX1_rowAfter_r1 : List Cond := [Cond.fieldLink RX1 13 "HiddenWorks$Finder" "steps" "I", Cond.fieldLink RX1 50 "HiddenWorks$Task" "letters" "I", Cond.methodLink RX1 47 yX7_rows, Cond.instanceMethod yX7_rows, Cond.selects RX7 yX7_rows yX7_rows, Cond.initialized RX7, Cond.code yX7_rows cX7_rows 1 (some .int), Cond.fieldLink RX7 22 "HiddenWorks$Task" "letters" "I", Cond.methodLink RX1 53 yX7_gainByTurning, Cond.instanceMethod yX7_gainByTurning, Cond.selects RX7 yX7_gainByTurning yX7_gainByTurning, Cond.code yX7_gainByTurning cX7_gainByTurning 7 (some .int), Cond.fieldLink RX7 25 "HiddenWorks$Task" "clauses" "I", Cond.fieldLink RX7 9 "HiddenWorks$Task" "plain" "[I", Cond.fieldLink RX7 15 "HiddenWorks$Task" "against" "[I", Cond.fieldLink RX7 18 "HiddenWorks$Task" "kind" "I", Cond.methodLink RX7 47 yX7_width, Cond.instanceMethod yX7_width, Cond.selects RX7 yX7_width yX7_width, Cond.code yX7_width cX7_width 2 (some .int), Cond.methodLink RX7 37 yJ6_bitCount_0f7a4, Cond.static yJ6_bitCount_0f7a4, Cond.initialized RJ6, Cond.code yJ6_bitCount_0f7a4 cJ6_bitCount_0f7a4 1 (some .int)]
def wsX1_rowAfter_r2 : List Cond := [Cond.constant RJ6 265 (1431655765), Cond.constant RJ6 266 (858993459), Cond.constant RJ6 267 (252645135), Cond.methodLink RX7 43 yX7_trueOnes, Cond.instanceMethod yX7_trueOnes, Cond.selects RX7 yX7_trueOnes yX7_trueOnes, Cond.code yX7_trueOnes cX7_trueOnes 3 (some .int), Cond.methodLink RX7 79 yX2_worth, Cond.static yX2_worth, Cond.initialized RX2, Cond.code yX2_worth cX2_worth 4 (some .int), Cond.methodLink RX2 9 yX2_holds, Cond.static yX2_holds, Cond.code yX2_holds cX2_holds 3 (some .boolean)]
def wsX1_rowAfter : List Cond := .code yX1_rowAfter cX1_rowAfter 7 (some .int) :: ((wsX1_rowAfter_r1 ++ wsX1_rowAfter_r2) ++ wsX10 ++ wsX70)
def wsX1_climb_r1 : List Cond := [Cond.fieldLink RX1 13 "HiddenWorks$Finder" "steps" "I", Cond.fieldLink RX1 7 "HiddenWorks$Finder" "found" "I", Cond.methodLink RX1 39 yX7_isSolvedBy, Cond.instanceMethod yX7_isSolvedBy, Cond.selects RX7 yX7_isSolvedBy yX7_isSolvedBy, Cond.initialized RX7, Cond.code yX7_isSolvedBy cX7_isSolvedBy 2 (some .boolean), Cond.methodLink RX7 59 yX7_brokenFrom, Cond.instanceMethod yX7_brokenFrom, Cond.selects RX7 yX7_brokenFrom yX7_brokenFrom, Cond.code yX7_brokenFrom cX7_brokenFrom 4 (some .int), Cond.fieldLink RX7 25 "HiddenWorks$Task" "clauses" "I", Cond.methodLink RX7 56 yX7_holds, Cond.instanceMethod yX7_holds, Cond.selects RX7 yX7_holds yX7_holds, Cond.code yX7_holds cX7_holds 3 (some .boolean), Cond.fieldLink RX7 18 "HiddenWorks$Task" "kind" "I", Cond.methodLink RX7 43 yX7_trueOnes, Cond.instanceMethod yX7_trueOnes, Cond.selects RX7 yX7_trueOnes yX7_trueOnes, Cond.code yX7_trueOnes cX7_trueOnes 3 (some .int), Cond.fieldLink RX7 9 "HiddenWorks$Task" "plain" "[I", Cond.fieldLink RX7 15 "HiddenWorks$Task" "against" "[I", Cond.methodLink RX7 37 yJ6_bitCount_0f7a4]
def wsX1_climb_r2 : List Cond := [Cond.static yJ6_bitCount_0f7a4, Cond.initialized RJ6, Cond.code yJ6_bitCount_0f7a4 cJ6_bitCount_0f7a4 1 (some .int), Cond.constant RJ6 265 (1431655765), Cond.constant RJ6 266 (858993459), Cond.constant RJ6 267 (252645135), Cond.methodLink RX7 47 yX7_width, Cond.instanceMethod yX7_width, Cond.selects RX7 yX7_width yX7_width, Cond.code yX7_width cX7_width 2 (some .int), Cond.methodLink RX7 50 yX2_holds, Cond.static yX2_holds, Cond.initialized RX2, Cond.code yX2_holds cX2_holds 3 (some .boolean), Cond.methodLink RX1 43 yX1_rowAfter, Cond.instanceMethod yX1_rowAfter, Cond.selects RX1 yX1_rowAfter yX1_rowAfter, Cond.initialized RX1, Cond.code yX1_rowAfter cX1_rowAfter 7 (some .int), Cond.fieldLink RX1 50 "HiddenWorks$Task" "letters" "I", Cond.methodLink RX1 47 yX7_rows, Cond.instanceMethod yX7_rows, Cond.selects RX7 yX7_rows yX7_rows, Cond.code yX7_rows cX7_rows 1 (some .int)]
def wsX1_climb_r3 : List Cond := [Cond.fieldLink RX7 22 "HiddenWorks$Task" "letters" "I", Cond.methodLink RX1 53 yX7_gainByTurning, Cond.instanceMethod yX7_gainByTurning, Cond.selects RX7 yX7_gainByTurning yX7_gainByTurning, Cond.code yX7_gainByTurning cX7_gainByTurning 7 (some .int), Cond.methodLink RX7 79 yX2_worth, Cond.static yX2_worth, Cond.code yX2_worth cX2_worth 4 (some .int), Cond.methodLink RX2 9 yX2_holds]
def wsX1_climb : List Cond := .code yX1_climb cX1_climb 6 none :: ((wsX1_climb_r1 ++ (wsX1_climb_r2 ++ wsX1_climb_r3)) ++ wsX10 ++ wsX70)
def wsX7_holdsSoFar_r1 : List Cond := [Cond.fieldLink RX7 25 "HiddenWorks$Task" "clauses" "I", Cond.fieldLink RX7 9 "HiddenWorks$Task" "plain" "[I", Cond.fieldLink RX7 15 "HiddenWorks$Task" "against" "[I", Cond.methodLink RX7 56 yX7_holds, Cond.instanceMethod yX7_holds, Cond.selects RX7 yX7_holds yX7_holds, Cond.initialized RX7, Cond.code yX7_holds cX7_holds 3 (some .boolean), Cond.fieldLink RX7 18 "HiddenWorks$Task" "kind" "I", Cond.methodLink RX7 43 yX7_trueOnes, Cond.instanceMethod yX7_trueOnes, Cond.selects RX7 yX7_trueOnes yX7_trueOnes, Cond.code yX7_trueOnes cX7_trueOnes 3 (some .int), Cond.methodLink RX7 37 yJ6_bitCount_0f7a4, Cond.static yJ6_bitCount_0f7a4, Cond.initialized RJ6, Cond.code yJ6_bitCount_0f7a4 cJ6_bitCount_0f7a4 1 (some .int), Cond.constant RJ6 265 (1431655765), Cond.constant RJ6 266 (858993459), Cond.constant RJ6 267 (252645135), Cond.methodLink RX7 47 yX7_width, Cond.instanceMethod yX7_width, Cond.selects RX7 yX7_width yX7_width, Cond.code yX7_width cX7_width 2 (some .int)]
def wsX7_holdsSoFar_r2 : List Cond := [Cond.methodLink RX7 50 yX2_holds, Cond.static yX2_holds, Cond.initialized RX2, Cond.code yX2_holds cX2_holds 3 (some .boolean)]
def wsX7_holdsSoFar : List Cond := .code yX7_holdsSoFar cX7_holdsSoFar 5 (some .boolean) :: ((wsX7_holdsSoFar_r1 ++ wsX7_holdsSoFar_r2) ++ wsX70)
def wsX1_search_r1 : List Cond := [Cond.fieldLink RX1 13 "HiddenWorks$Finder" "steps" "I", Cond.fieldLink RX1 50 "HiddenWorks$Task" "letters" "I", Cond.fieldLink RX1 7 "HiddenWorks$Finder" "found" "I", Cond.methodLink RX1 56 yX7_holdsSoFar, Cond.instanceMethod yX7_holdsSoFar, Cond.selects RX7 yX7_holdsSoFar yX7_holdsSoFar, Cond.initialized RX7, Cond.code yX7_holdsSoFar cX7_holdsSoFar 5 (some .boolean), Cond.fieldLink RX7 25 "HiddenWorks$Task" "clauses" "I", Cond.fieldLink RX7 9 "HiddenWorks$Task" "plain" "[I", Cond.fieldLink RX7 15 "HiddenWorks$Task" "against" "[I", Cond.methodLink RX7 56 yX7_holds, Cond.instanceMethod yX7_holds, Cond.selects RX7 yX7_holds yX7_holds, Cond.code yX7_holds cX7_holds 3 (some .boolean), Cond.fieldLink RX7 18 "HiddenWorks$Task" "kind" "I", Cond.methodLink RX7 43 yX7_trueOnes, Cond.instanceMethod yX7_trueOnes, Cond.selects RX7 yX7_trueOnes yX7_trueOnes, Cond.code yX7_trueOnes cX7_trueOnes 3 (some .int), Cond.methodLink RX7 37 yJ6_bitCount_0f7a4, Cond.static yJ6_bitCount_0f7a4, Cond.initialized RJ6, Cond.code yJ6_bitCount_0f7a4 cJ6_bitCount_0f7a4 1 (some .int)]
def wsX1_search_r2 : List Cond := [Cond.constant RJ6 265 (1431655765), Cond.constant RJ6 266 (858993459), Cond.constant RJ6 267 (252645135), Cond.methodLink RX7 47 yX7_width, Cond.instanceMethod yX7_width, Cond.selects RX7 yX7_width yX7_width, Cond.code yX7_width cX7_width 2 (some .int), Cond.methodLink RX7 50 yX2_holds, Cond.static yX2_holds, Cond.initialized RX2, Cond.code yX2_holds cX2_holds 3 (some .boolean)]
def wsX1_search : List Cond := .code yX1_search cX1_search 6 none :: ((wsX1_search_r1 ++ wsX1_search_r2) ++ wsX10 ++ wsX70)
def wsX1_seek_r1 : List Cond := [Cond.fieldLink RX1 7 "HiddenWorks$Finder" "found" "I", Cond.fieldLink RX1 13 "HiddenWorks$Finder" "steps" "I", Cond.methodLink RX1 22 Lib.Math.min.name, Cond.static Lib.Math.min.name, Cond.initialized "java/lang/Math", Cond.code Lib.Math.min.name Lib.Math.min.code 2 (some .int), Cond.methodLink RX1 16 yX7_countsRow, Cond.instanceMethod yX7_countsRow, Cond.selects RX7 yX7_countsRow yX7_countsRow, Cond.initialized RX7, Cond.code yX7_countsRow cX7_countsRow 3 (some .int), Cond.fieldLink RX7 22 "HiddenWorks$Task" "letters" "I", Cond.methodLink RX7 76 yX7_excess, Cond.instanceMethod yX7_excess, Cond.selects RX7 yX7_excess yX7_excess, Cond.code yX7_excess cX7_excess 4 (some .int), Cond.fieldLink RX7 25 "HiddenWorks$Task" "clauses" "I", Cond.fieldLink RX7 9 "HiddenWorks$Task" "plain" "[I", Cond.fieldLink RX7 15 "HiddenWorks$Task" "against" "[I", Cond.methodLink RX1 28 yX1_climb, Cond.instanceMethod yX1_climb, Cond.selects RX1 yX1_climb yX1_climb, Cond.initialized RX1, Cond.code yX1_climb cX1_climb 6 none]
def wsX1_seek_r2 : List Cond := [Cond.methodLink RX1 39 yX7_isSolvedBy, Cond.instanceMethod yX7_isSolvedBy, Cond.selects RX7 yX7_isSolvedBy yX7_isSolvedBy, Cond.code yX7_isSolvedBy cX7_isSolvedBy 2 (some .boolean), Cond.methodLink RX7 59 yX7_brokenFrom, Cond.instanceMethod yX7_brokenFrom, Cond.selects RX7 yX7_brokenFrom yX7_brokenFrom, Cond.code yX7_brokenFrom cX7_brokenFrom 4 (some .int), Cond.methodLink RX7 56 yX7_holds, Cond.instanceMethod yX7_holds, Cond.selects RX7 yX7_holds yX7_holds, Cond.code yX7_holds cX7_holds 3 (some .boolean), Cond.fieldLink RX7 18 "HiddenWorks$Task" "kind" "I", Cond.methodLink RX7 43 yX7_trueOnes, Cond.instanceMethod yX7_trueOnes, Cond.selects RX7 yX7_trueOnes yX7_trueOnes, Cond.code yX7_trueOnes cX7_trueOnes 3 (some .int), Cond.methodLink RX7 37 yJ6_bitCount_0f7a4, Cond.static yJ6_bitCount_0f7a4, Cond.initialized RJ6, Cond.code yJ6_bitCount_0f7a4 cJ6_bitCount_0f7a4 1 (some .int), Cond.constant RJ6 265 (1431655765), Cond.constant RJ6 266 (858993459), Cond.constant RJ6 267 (252645135)]
def wsX1_seek_r3 : List Cond := [Cond.methodLink RX7 47 yX7_width, Cond.instanceMethod yX7_width, Cond.selects RX7 yX7_width yX7_width, Cond.code yX7_width cX7_width 2 (some .int), Cond.methodLink RX7 50 yX2_holds, Cond.static yX2_holds, Cond.initialized RX2, Cond.code yX2_holds cX2_holds 3 (some .boolean), Cond.methodLink RX1 43 yX1_rowAfter, Cond.instanceMethod yX1_rowAfter, Cond.selects RX1 yX1_rowAfter yX1_rowAfter, Cond.code yX1_rowAfter cX1_rowAfter 7 (some .int), Cond.fieldLink RX1 50 "HiddenWorks$Task" "letters" "I", Cond.methodLink RX1 47 yX7_rows, Cond.instanceMethod yX7_rows, Cond.selects RX7 yX7_rows yX7_rows, Cond.code yX7_rows cX7_rows 1 (some .int), Cond.methodLink RX1 53 yX7_gainByTurning, Cond.instanceMethod yX7_gainByTurning, Cond.selects RX7 yX7_gainByTurning yX7_gainByTurning, Cond.code yX7_gainByTurning cX7_gainByTurning 7 (some .int), Cond.methodLink RX7 79 yX2_worth, Cond.static yX2_worth, Cond.code yX2_worth cX2_worth 4 (some .int)]
def wsX1_seek_r4 : List Cond := [Cond.methodLink RX2 9 yX2_holds, Cond.methodLink RX1 32 yX1_search, Cond.instanceMethod yX1_search, Cond.selects RX1 yX1_search yX1_search, Cond.code yX1_search cX1_search 6 none, Cond.methodLink RX1 56 yX7_holdsSoFar, Cond.instanceMethod yX7_holdsSoFar, Cond.selects RX7 yX7_holdsSoFar yX7_holdsSoFar, Cond.code yX7_holdsSoFar cX7_holdsSoFar 5 (some .boolean)]
def wsX1_seek : List Cond := .code yX1_seek cX1_seek 4 none :: ((wsX1_seek_r1 ++ (wsX1_seek_r2 ++ (wsX1_seek_r3 ++ wsX1_seek_r4))) ++ wsX10 ++ wsX70)
def wsX1_foundHidden : List Cond := .code yX1_foundHidden cX1_foundHidden 2 (some .boolean) :: ([.fieldLink RX1 7 "HiddenWorks$Finder" "found" "I", .fieldLink RX1 36 "HiddenWorks$Task" "hidden" "I"] ++ wsX10 ++ wsX70)
def wsX2_exists : List Cond := .code yX2_exists cX2_exists 1 (some .boolean) :: ([])
def wsX2_isOne : List Cond := .code yX2_isOne cX2_isOne 4 (some .boolean) :: ([.fieldLink RX2 13 "HiddenWorks$Kind" "ABOVE" "[I"])
def wsX3_init : List Cond := .code yX3_init cX3_init 1 none :: ([.methodLink RX3 3 objectInit, .instanceMethod objectInit, .code objectInit ⟨#[0xb1]⟩ 1 none])
def wsX7_begin : List Cond := .code yX7_begin cX7_begin 3 none :: ([.fieldLink RX7 18 "HiddenWorks$Task" "kind" "I", .fieldLink RX7 22 "HiddenWorks$Task" "letters" "I", .fieldLink RX7 25 "HiddenWorks$Task" "clauses" "I", .fieldLink RX7 28 "HiddenWorks$Task" "hidden" "I", .fieldLink RX7 31 "HiddenWorks$Task" "recipe" "I", .fieldLink RX7 34 "HiddenWorks$Task" "seed" "I"] ++ wsX70)
def wsX3_draw : List Cond := .code yX3_draw cX3_draw 2 (some .int) :: ([.fieldLink RX3 9 "HiddenWorks$Maker" "lot" "J", .constantLong RX3 54 (48271), .constantLong RX3 56 (2147483647), .constantLong RX3 58 (16)] ++ wsX30)
def wsX3_bitAt : List Cond := .code yX3_bitAt cX3_bitAt 4 (some .int) :: ([])
def wsX3_drawLetters : List Cond := .code yX3_drawLetters cX3_drawLetters 7 (some .int) :: ([.methodLink RX3 30 yX3_draw, .instanceMethod yX3_draw, .selects RX3 yX3_draw yX3_draw, .initialized RX3, .code yX3_draw cX3_draw 2 (some .int), .fieldLink RX3 9 "HiddenWorks$Maker" "lot" "J", .constantLong RX3 54 (48271), .constantLong RX3 56 (2147483647), .constantLong RX3 58 (16), .methodLink RX3 60 yX3_bitAt, .static yX3_bitAt, .code yX3_bitAt cX3_bitAt 4 (some .int)] ++ wsX30)
def wsX4_ways : List Cond := .code yX4_ways cX4_ways 2 (some .int) :: ([.fieldLink RX4 15 "HiddenWorks$Recipe" "wide" "I"] ++ wsX40)
def wsX4_share : List Cond := .code yX4_share cX4_share 2 (some .int) :: ([.fieldLink RX4 9 "HiddenWorks$Recipe" "weights" "[I", .methodLink RX4 19 yX4_ways, .instanceMethod yX4_ways, .selects RX4 yX4_ways yX4_ways, .initialized RX4, .code yX4_ways cX4_ways 2 (some .int), .fieldLink RX4 15 "HiddenWorks$Recipe" "wide" "I"] ++ wsX40)
def wsX4_allWays : List Cond := .code yX4_allWays cX4_allWays 3 (some .int) :: ([.fieldLink RX4 15 "HiddenWorks$Recipe" "wide" "I", .methodLink RX4 23 yX4_share, .instanceMethod yX4_share, .selects RX4 yX4_share yX4_share, .initialized RX4, .code yX4_share cX4_share 2 (some .int), .fieldLink RX4 9 "HiddenWorks$Recipe" "weights" "[I", .methodLink RX4 19 yX4_ways, .instanceMethod yX4_ways, .selects RX4 yX4_ways yX4_ways, .code yX4_ways cX4_ways 2 (some .int)] ++ wsX40)
def wsX3_trueByWay : List Cond := .code yX3_trueByWay cX3_trueByWay 5 (some .int) :: ([.methodLink RX3 60 yX3_bitAt, .static yX3_bitAt, .initialized RX3, .code yX3_bitAt cX3_bitAt 4 (some .int)])
def wsX3_drawTrue_r1 : List Cond := [Cond.fieldLink RX3 40 "HiddenWorks$Recipe" "wide" "I", Cond.fieldLink RX3 67 "HiddenWorks$Recipe" "weights" "[I", Cond.methodLink RX3 63 yX4_allWays, Cond.instanceMethod yX4_allWays, Cond.selects RX4 yX4_allWays yX4_allWays, Cond.initialized RX4, Cond.code yX4_allWays cX4_allWays 3 (some .int), Cond.fieldLink RX4 15 "HiddenWorks$Recipe" "wide" "I", Cond.methodLink RX4 23 yX4_share, Cond.instanceMethod yX4_share, Cond.selects RX4 yX4_share yX4_share, Cond.code yX4_share cX4_share 2 (some .int), Cond.fieldLink RX4 9 "HiddenWorks$Recipe" "weights" "[I", Cond.methodLink RX4 19 yX4_ways, Cond.instanceMethod yX4_ways, Cond.selects RX4 yX4_ways yX4_ways, Cond.code yX4_ways cX4_ways 2 (some .int), Cond.methodLink RX3 30 yX3_draw, Cond.instanceMethod yX3_draw, Cond.selects RX3 yX3_draw yX3_draw, Cond.initialized RX3, Cond.code yX3_draw cX3_draw 2 (some .int), Cond.fieldLink RX3 9 "HiddenWorks$Maker" "lot" "J", Cond.constantLong RX3 54 (48271)]
def wsX3_drawTrue_r2 : List Cond := [Cond.constantLong RX3 56 (2147483647), Cond.constantLong RX3 58 (16), Cond.methodLink RX3 71 yX4_share, Cond.methodLink RX3 74 yX3_trueByWay, Cond.static yX3_trueByWay, Cond.code yX3_trueByWay cX3_trueByWay 5 (some .int), Cond.methodLink RX3 60 yX3_bitAt, Cond.static yX3_bitAt, Cond.code yX3_bitAt cX3_bitAt 4 (some .int)]
def wsX3_drawTrue : List Cond := .code yX3_drawTrue cX3_drawTrue 7 (some .int) :: ((wsX3_drawTrue_r1 ++ wsX3_drawTrue_r2) ++ wsX40 ++ wsX30)
def wsX7_addClause : List Cond := .code yX7_addClause cX7_addClause 3 none :: ([.fieldLink RX7 25 "HiddenWorks$Task" "clauses" "I", .fieldLink RX7 9 "HiddenWorks$Task" "plain" "[I", .fieldLink RX7 15 "HiddenWorks$Task" "against" "[I"] ++ wsX70)
def wsX3_fill_r1 : List Cond := [Cond.fieldLink RX3 9 "HiddenWorks$Maker" "lot" "J", Cond.fieldLink RX3 15 "HiddenWorks$Recipe" "kind" "I", Cond.fieldLink RX3 21 "HiddenWorks$Recipe" "letters" "I", Cond.fieldLink RX3 34 "HiddenWorks$Task" "hidden" "I", Cond.fieldLink RX3 37 "HiddenWorks$Recipe" "clauses" "I", Cond.fieldLink RX3 40 "HiddenWorks$Recipe" "wide" "I", Cond.methodLink RX3 24 yX7_begin, Cond.instanceMethod yX7_begin, Cond.selects RX7 yX7_begin yX7_begin, Cond.initialized RX7, Cond.code yX7_begin cX7_begin 3 none, Cond.fieldLink RX7 18 "HiddenWorks$Task" "kind" "I", Cond.fieldLink RX7 22 "HiddenWorks$Task" "letters" "I", Cond.fieldLink RX7 25 "HiddenWorks$Task" "clauses" "I", Cond.fieldLink RX7 28 "HiddenWorks$Task" "hidden" "I", Cond.fieldLink RX7 31 "HiddenWorks$Task" "recipe" "I", Cond.fieldLink RX7 34 "HiddenWorks$Task" "seed" "I", Cond.methodLink RX3 30 yX3_draw, Cond.instanceMethod yX3_draw, Cond.selects RX3 yX3_draw yX3_draw, Cond.initialized RX3, Cond.code yX3_draw cX3_draw 2 (some .int), Cond.constantLong RX3 54 (48271), Cond.constantLong RX3 56 (2147483647)]
def wsX3_fill_r2 : List Cond := [Cond.constantLong RX3 58 (16), Cond.methodLink RX3 43 yX3_drawLetters, Cond.instanceMethod yX3_drawLetters, Cond.selects RX3 yX3_drawLetters yX3_drawLetters, Cond.code yX3_drawLetters cX3_drawLetters 7 (some .int), Cond.methodLink RX3 60 yX3_bitAt, Cond.static yX3_bitAt, Cond.code yX3_bitAt cX3_bitAt 4 (some .int), Cond.methodLink RX3 47 yX3_drawTrue, Cond.instanceMethod yX3_drawTrue, Cond.selects RX3 yX3_drawTrue yX3_drawTrue, Cond.code yX3_drawTrue cX3_drawTrue 7 (some .int), Cond.fieldLink RX3 67 "HiddenWorks$Recipe" "weights" "[I", Cond.methodLink RX3 63 yX4_allWays, Cond.instanceMethod yX4_allWays, Cond.selects RX4 yX4_allWays yX4_allWays, Cond.initialized RX4, Cond.code yX4_allWays cX4_allWays 3 (some .int), Cond.fieldLink RX4 15 "HiddenWorks$Recipe" "wide" "I", Cond.methodLink RX4 23 yX4_share, Cond.instanceMethod yX4_share, Cond.selects RX4 yX4_share yX4_share, Cond.code yX4_share cX4_share 2 (some .int), Cond.fieldLink RX4 9 "HiddenWorks$Recipe" "weights" "[I"]
def wsX3_fill_r3 : List Cond := [Cond.methodLink RX4 19 yX4_ways, Cond.instanceMethod yX4_ways, Cond.selects RX4 yX4_ways yX4_ways, Cond.code yX4_ways cX4_ways 2 (some .int), Cond.methodLink RX3 71 yX4_share, Cond.methodLink RX3 74 yX3_trueByWay, Cond.static yX3_trueByWay, Cond.code yX3_trueByWay cX3_trueByWay 5 (some .int), Cond.methodLink RX3 51 yX7_addClause, Cond.instanceMethod yX7_addClause, Cond.selects RX7 yX7_addClause yX7_addClause, Cond.code yX7_addClause cX7_addClause 3 none, Cond.fieldLink RX7 9 "HiddenWorks$Task" "plain" "[I", Cond.fieldLink RX7 15 "HiddenWorks$Task" "against" "[I"]
def wsX3_fill : List Cond := .code yX3_fill cX3_fill 8 none :: ((wsX3_fill_r1 ++ (wsX3_fill_r2 ++ wsX3_fill_r3)) ++ wsX30 ++ wsX40 ++ wsX70)
def wsX4_init : List Cond := .code yX4_init cX4_init 1 none :: ([.methodLink RX4 3 objectInit, .instanceMethod objectInit, .code objectInit ⟨#[0xb1]⟩ 1 none, .arrayClass .int, .fieldLink RX4 9 "HiddenWorks$Recipe" "weights" "[I"] ++ wsX40)
def wsX4_leaning : List Cond := .code yX4_leaning cX4_leaning 3 (some .int) :: ([.fieldLink RX4 15 "HiddenWorks$Recipe" "wide" "I", .methodLink RX4 23 yX4_share, .instanceMethod yX4_share, .selects RX4 yX4_share yX4_share, .initialized RX4, .code yX4_share cX4_share 2 (some .int), .fieldLink RX4 9 "HiddenWorks$Recipe" "weights" "[I", .methodLink RX4 19 yX4_ways, .instanceMethod yX4_ways, .selects RX4 yX4_ways yX4_ways, .code yX4_ways cX4_ways 2 (some .int)] ++ wsX40)
def wsX4_pairCount : List Cond := .code yX4_pairCount cX4_pairCount 1 (some .int) :: ([.fieldLink RX4 15 "HiddenWorks$Recipe" "wide" "I"] ++ wsX40)
def wsX4_pairing : List Cond := .code yX4_pairing cX4_pairing 4 (some .int) :: ([.fieldLink RX4 15 "HiddenWorks$Recipe" "wide" "I", .methodLink RX4 23 yX4_share, .instanceMethod yX4_share, .selects RX4 yX4_share yX4_share, .initialized RX4, .code yX4_share cX4_share 2 (some .int), .fieldLink RX4 9 "HiddenWorks$Recipe" "weights" "[I", .methodLink RX4 19 yX4_ways, .instanceMethod yX4_ways, .selects RX4 yX4_ways yX4_ways, .code yX4_ways cX4_ways 2 (some .int), .methodLink RX4 26 yX4_pairCount, .instanceMethod yX4_pairCount, .selects RX4 yX4_pairCount yX4_pairCount, .code yX4_pairCount cX4_pairCount 1 (some .int)] ++ wsX40)
def wsX4_balancesWith : List Cond := .code yX4_balancesWith cX4_balancesWith 5 (some .boolean) :: ([.fieldLink RX4 30 "HiddenWorks$Recipe" "kind" "I", .fieldLink RX4 15 "HiddenWorks$Recipe" "wide" "I", .fieldLink RX4 9 "HiddenWorks$Recipe" "weights" "[I", .methodLink RX4 33 yX2_holds, .static yX2_holds, .initialized RX2, .code yX2_holds cX2_holds 3 (some .boolean), .methodLink RX4 39 yX4_leaning, .instanceMethod yX4_leaning, .selects RX4 yX4_leaning yX4_leaning, .initialized RX4, .code yX4_leaning cX4_leaning 3 (some .int), .methodLink RX4 23 yX4_share, .instanceMethod yX4_share, .selects RX4 yX4_share yX4_share, .code yX4_share cX4_share 2 (some .int), .methodLink RX4 19 yX4_ways, .instanceMethod yX4_ways, .selects RX4 yX4_ways yX4_ways, .code yX4_ways cX4_ways 2 (some .int), .methodLink RX4 42 yX4_allWays, .instanceMethod yX4_allWays, .selects RX4 yX4_allWays yX4_allWays, .code yX4_allWays cX4_allWays 3 (some .int)] ++ wsX40)
def wsX5_init : List Cond := .code yX5_init cX5_init 1 none :: ([.methodLink RX5 3 objectInit, .instanceMethod objectInit, .code objectInit ⟨#[0xb1]⟩ 1 none, .fieldLink RX5 9 "HiddenWorks$Sheet" "sort" "I", .arrayClass .int, .fieldLink RX5 15 "HiddenWorks$Sheet" "cells" "[I"] ++ wsX50)
def wsJ7_fill_53178 : List Cond := .code yJ7_fill_53178 cJ7_fill_53178 4 none :: ([])
def wsX5_begin : List Cond := .code yX5_begin cX5_begin 3 none :: ([.fieldLink RX5 9 "HiddenWorks$Sheet" "sort" "I", .fieldLink RX5 19 "HiddenWorks$Sheet" "size" "I", .fieldLink RX5 15 "HiddenWorks$Sheet" "cells" "[I", .methodLink RX5 22 yJ7_fill_53178, .static yJ7_fill_53178, .initialized RJ7, .code yJ7_fill_53178 cJ7_fill_53178 4 none] ++ wsX50)
def wsX5_isMissing : List Cond := .code yX5_isMissing cX5_isMissing 1 (some .boolean) :: ([.fieldLink RX5 9 "HiddenWorks$Sheet" "sort" "I"] ++ wsX50)
def wsX5_cut : List Cond := .code yX5_cut cX5_cut 2 (some .int) :: ([.fieldLink RX5 9 "HiddenWorks$Sheet" "sort" "I"] ++ wsX50)
def wsX5_hasRange : List Cond := .code yX5_hasRange cX5_hasRange 3 (some .boolean) :: ([.fieldLink RX5 19 "HiddenWorks$Sheet" "size" "I"] ++ wsX50)
def wsX5_isOrderOf : List Cond := .code yX5_isOrderOf cX5_isOrderOf 4 (some .boolean) :: ([.fieldLink RX5 19 "HiddenWorks$Sheet" "size" "I", .fieldLink RX5 15 "HiddenWorks$Sheet" "cells" "[I"] ++ wsX50)
def wsX5_renumbered : List Cond := .code yX5_renumbered cX5_renumbered 4 (some .int) :: ([.fieldLink RX5 19 "HiddenWorks$Sheet" "size" "I", .fieldLink RX5 15 "HiddenWorks$Sheet" "cells" "[I"] ++ wsX50)
def wsX6_init : List Cond := .code yX6_init cX6_init 1 none :: ([.methodLink RX6 3 objectInit, .instanceMethod objectInit, .code objectInit ⟨#[0xb1]⟩ 1 none, .arrayClass .int, .fieldLink RX6 9 "HiddenWorks$Tape" "bytes" "[I"] ++ wsX60)
def wsX6_put : List Cond := .code yX6_put cX6_put 2 none :: ([.fieldLink RX6 15 "HiddenWorks$Tape" "size" "I", .fieldLink RX6 9 "HiddenWorks$Tape" "bytes" "[I"] ++ wsX60)
def wsX6_byteHere : List Cond := .code yX6_byteHere cX6_byteHere 1 (some .int) :: ([.fieldLink RX6 19 "HiddenWorks$Tape" "place" "I", .fieldLink RX6 15 "HiddenWorks$Tape" "size" "I", .fieldLink RX6 9 "HiddenWorks$Tape" "bytes" "[I"] ++ wsX60)
def wsX6_number : List Cond := .code yX6_number cX6_number 6 (some .int) :: ([.fieldLink RX6 22 "HiddenWorks$Tape" "fault" "I", .fieldLink RX6 19 "HiddenWorks$Tape" "place" "I", .methodLink RX6 68 yX6_byteHere, .instanceMethod yX6_byteHere, .selects RX6 yX6_byteHere yX6_byteHere, .initialized RX6, .code yX6_byteHere cX6_byteHere 1 (some .int), .fieldLink RX6 15 "HiddenWorks$Tape" "size" "I", .fieldLink RX6 9 "HiddenWorks$Tape" "bytes" "[I"] ++ wsX60)
def wsX6_named : List Cond := .code yX6_named cX6_named 4 (some .int) :: ([.fieldLink RX6 22 "HiddenWorks$Tape" "fault" "I", .fieldLink RX6 19 "HiddenWorks$Tape" "place" "I", .methodLink RX6 68 yX6_byteHere, .instanceMethod yX6_byteHere, .selects RX6 yX6_byteHere yX6_byteHere, .initialized RX6, .code yX6_byteHere cX6_byteHere 1 (some .int), .fieldLink RX6 15 "HiddenWorks$Tape" "size" "I", .fieldLink RX6 9 "HiddenWorks$Tape" "bytes" "[I", .methodLink RX6 61 yX6_number, .instanceMethod yX6_number, .selects RX6 yX6_number yX6_number, .code yX6_number cX6_number 6 (some .int)] ++ wsX60)
def wsX6_gap : List Cond := .code yX6_gap cX6_gap 2 none :: ([.fieldLink RX6 22 "HiddenWorks$Tape" "fault" "I", .fieldLink RX6 19 "HiddenWorks$Tape" "place" "I", .methodLink RX6 68 yX6_byteHere, .instanceMethod yX6_byteHere, .selects RX6 yX6_byteHere yX6_byteHere, .initialized RX6, .code yX6_byteHere cX6_byteHere 1 (some .int), .fieldLink RX6 15 "HiddenWorks$Tape" "size" "I", .fieldLink RX6 9 "HiddenWorks$Tape" "bytes" "[I"] ++ wsX60)
def wsX6_readInto_r1 : List Cond := [Cond.fieldLink RX6 19 "HiddenWorks$Tape" "place" "I", Cond.fieldLink RX6 22 "HiddenWorks$Tape" "fault" "I", Cond.fieldLink RX6 31 "HiddenWorks$Recipe" "kind" "I", Cond.fieldLink RX6 39 "HiddenWorks$Recipe" "letters" "I", Cond.fieldLink RX6 42 "HiddenWorks$Recipe" "clauses" "I", Cond.methodLink RX6 45 Lib.Math.min.name, Cond.static Lib.Math.min.name, Cond.initialized "java/lang/Math", Cond.code Lib.Math.min.name Lib.Math.min.code 2 (some .int), Cond.fieldLink RX6 51 "HiddenWorks$Recipe" "wide" "I", Cond.fieldLink RX6 54 "HiddenWorks$Recipe" "weights" "[I", Cond.fieldLink RX6 15 "HiddenWorks$Tape" "size" "I", Cond.methodLink RX6 27 yX6_named, Cond.instanceMethod yX6_named, Cond.selects RX6 yX6_named yX6_named, Cond.initialized RX6, Cond.code yX6_named cX6_named 4 (some .int), Cond.methodLink RX6 68 yX6_byteHere, Cond.instanceMethod yX6_byteHere, Cond.selects RX6 yX6_byteHere yX6_byteHere, Cond.code yX6_byteHere cX6_byteHere 1 (some .int), Cond.fieldLink RX6 9 "HiddenWorks$Tape" "bytes" "[I", Cond.methodLink RX6 61 yX6_number, Cond.instanceMethod yX6_number]
def wsX6_readInto_r2 : List Cond := [Cond.selects RX6 yX6_number yX6_number, Cond.code yX6_number cX6_number 6 (some .int), Cond.methodLink RX6 36 yX6_gap, Cond.instanceMethod yX6_gap, Cond.selects RX6 yX6_gap yX6_gap, Cond.code yX6_gap cX6_gap 2 none, Cond.methodLink RX6 57 yX2_holds, Cond.static yX2_holds, Cond.initialized RX2, Cond.code yX2_holds cX2_holds 3 (some .boolean), Cond.methodLink RX6 64 yX4_allWays, Cond.instanceMethod yX4_allWays, Cond.selects RX4 yX4_allWays yX4_allWays, Cond.initialized RX4, Cond.code yX4_allWays cX4_allWays 3 (some .int), Cond.fieldLink RX4 15 "HiddenWorks$Recipe" "wide" "I", Cond.methodLink RX4 23 yX4_share, Cond.instanceMethod yX4_share, Cond.selects RX4 yX4_share yX4_share, Cond.code yX4_share cX4_share 2 (some .int), Cond.fieldLink RX4 9 "HiddenWorks$Recipe" "weights" "[I", Cond.methodLink RX4 19 yX4_ways, Cond.instanceMethod yX4_ways, Cond.selects RX4 yX4_ways yX4_ways]
def wsX6_readInto_r3 : List Cond := [Cond.code yX4_ways cX4_ways 2 (some .int)]
def wsX6_readInto : List Cond := .code yX6_readInto cX6_readInto 3 (some .int) :: ((wsX6_readInto_r1 ++ (wsX6_readInto_r2 ++ wsX6_readInto_r3)) ++ wsX60 ++ wsX40)
def wsX7_init : List Cond := .code yX7_init cX7_init 1 none :: ([.methodLink RX7 3 objectInit, .instanceMethod objectInit, .code objectInit ⟨#[0xb1]⟩ 1 none, .arrayClass .int, .fieldLink RX7 9 "HiddenWorks$Task" "plain" "[I", .fieldLink RX7 15 "HiddenWorks$Task" "against" "[I"] ++ wsX70)
def wsX7_countAnswers_r1 : List Cond := [Cond.methodLink RX7 62 yX7_rows, Cond.instanceMethod yX7_rows, Cond.selects RX7 yX7_rows yX7_rows, Cond.initialized RX7, Cond.code yX7_rows cX7_rows 1 (some .int), Cond.fieldLink RX7 22 "HiddenWorks$Task" "letters" "I", Cond.methodLink RX7 66 yX7_isSolvedBy, Cond.instanceMethod yX7_isSolvedBy, Cond.selects RX7 yX7_isSolvedBy yX7_isSolvedBy, Cond.code yX7_isSolvedBy cX7_isSolvedBy 2 (some .boolean), Cond.methodLink RX7 59 yX7_brokenFrom, Cond.instanceMethod yX7_brokenFrom, Cond.selects RX7 yX7_brokenFrom yX7_brokenFrom, Cond.code yX7_brokenFrom cX7_brokenFrom 4 (some .int), Cond.fieldLink RX7 25 "HiddenWorks$Task" "clauses" "I", Cond.methodLink RX7 56 yX7_holds, Cond.instanceMethod yX7_holds, Cond.selects RX7 yX7_holds yX7_holds, Cond.code yX7_holds cX7_holds 3 (some .boolean), Cond.fieldLink RX7 18 "HiddenWorks$Task" "kind" "I", Cond.methodLink RX7 43 yX7_trueOnes, Cond.instanceMethod yX7_trueOnes, Cond.selects RX7 yX7_trueOnes yX7_trueOnes, Cond.code yX7_trueOnes cX7_trueOnes 3 (some .int)]
def wsX7_countAnswers_r2 : List Cond := [Cond.fieldLink RX7 9 "HiddenWorks$Task" "plain" "[I", Cond.fieldLink RX7 15 "HiddenWorks$Task" "against" "[I", Cond.methodLink RX7 37 yJ6_bitCount_0f7a4, Cond.static yJ6_bitCount_0f7a4, Cond.initialized RJ6, Cond.code yJ6_bitCount_0f7a4 cJ6_bitCount_0f7a4 1 (some .int), Cond.constant RJ6 265 (1431655765), Cond.constant RJ6 266 (858993459), Cond.constant RJ6 267 (252645135), Cond.methodLink RX7 47 yX7_width, Cond.instanceMethod yX7_width, Cond.selects RX7 yX7_width yX7_width, Cond.code yX7_width cX7_width 2 (some .int), Cond.methodLink RX7 50 yX2_holds, Cond.static yX2_holds, Cond.initialized RX2, Cond.code yX2_holds cX2_holds 3 (some .boolean)]
def wsX7_countAnswers : List Cond := .code yX7_countAnswers cX7_countAnswers 5 (some .int) :: ((wsX7_countAnswers_r1 ++ wsX7_countAnswers_r2) ++ wsX70)
def wsX7_tallyAnswers_r1 : List Cond := [Cond.fieldLink RX7 22 "HiddenWorks$Task" "letters" "I", Cond.methodLink RX7 70 yJ7_fill_53178, Cond.static yJ7_fill_53178, Cond.initialized RJ7, Cond.code yJ7_fill_53178 cJ7_fill_53178 4 none, Cond.methodLink RX7 62 yX7_rows, Cond.instanceMethod yX7_rows, Cond.selects RX7 yX7_rows yX7_rows, Cond.initialized RX7, Cond.code yX7_rows cX7_rows 1 (some .int), Cond.methodLink RX7 66 yX7_isSolvedBy, Cond.instanceMethod yX7_isSolvedBy, Cond.selects RX7 yX7_isSolvedBy yX7_isSolvedBy, Cond.code yX7_isSolvedBy cX7_isSolvedBy 2 (some .boolean), Cond.methodLink RX7 59 yX7_brokenFrom, Cond.instanceMethod yX7_brokenFrom, Cond.selects RX7 yX7_brokenFrom yX7_brokenFrom, Cond.code yX7_brokenFrom cX7_brokenFrom 4 (some .int), Cond.fieldLink RX7 25 "HiddenWorks$Task" "clauses" "I", Cond.methodLink RX7 56 yX7_holds, Cond.instanceMethod yX7_holds, Cond.selects RX7 yX7_holds yX7_holds, Cond.code yX7_holds cX7_holds 3 (some .boolean), Cond.fieldLink RX7 18 "HiddenWorks$Task" "kind" "I"]
def wsX7_tallyAnswers_r2 : List Cond := [Cond.methodLink RX7 43 yX7_trueOnes, Cond.instanceMethod yX7_trueOnes, Cond.selects RX7 yX7_trueOnes yX7_trueOnes, Cond.code yX7_trueOnes cX7_trueOnes 3 (some .int), Cond.fieldLink RX7 9 "HiddenWorks$Task" "plain" "[I", Cond.fieldLink RX7 15 "HiddenWorks$Task" "against" "[I", Cond.methodLink RX7 37 yJ6_bitCount_0f7a4, Cond.static yJ6_bitCount_0f7a4, Cond.initialized RJ6, Cond.code yJ6_bitCount_0f7a4 cJ6_bitCount_0f7a4 1 (some .int), Cond.constant RJ6 265 (1431655765), Cond.constant RJ6 266 (858993459), Cond.constant RJ6 267 (252645135), Cond.methodLink RX7 47 yX7_width, Cond.instanceMethod yX7_width, Cond.selects RX7 yX7_width yX7_width, Cond.code yX7_width cX7_width 2 (some .int), Cond.methodLink RX7 50 yX2_holds, Cond.static yX2_holds, Cond.initialized RX2, Cond.code yX2_holds cX2_holds 3 (some .boolean)]
def wsX7_tallyAnswers : List Cond := .code yX7_tallyAnswers cX7_tallyAnswers 5 (some .int) :: ((wsX7_tallyAnswers_r1 ++ wsX7_tallyAnswers_r2) ++ wsX70)
def wsX7_sign : List Cond := .code yX7_sign cX7_sign 4 (some .int) :: ([.fieldLink RX7 22 "HiddenWorks$Task" "letters" "I", .methodLink RX7 76 yX7_excess, .instanceMethod yX7_excess, .selects RX7 yX7_excess yX7_excess, .initialized RX7, .code yX7_excess cX7_excess 4 (some .int), .fieldLink RX7 25 "HiddenWorks$Task" "clauses" "I", .fieldLink RX7 9 "HiddenWorks$Task" "plain" "[I", .fieldLink RX7 15 "HiddenWorks$Task" "against" "[I"] ++ wsX70)
def wsX8_init_r1 : List Cond := [Cond.methodLink RX8 1 objectInit, Cond.instanceMethod objectInit, Cond.code objectInit ⟨#[0xb1]⟩ 1 none, Cond.classLink RX8 7 RX6, Cond.instantiable RX6 4, Cond.initialized RX6, Cond.fieldLink RX8 10 "HiddenWorks" "tape" "LHiddenWorks$Tape;", Cond.classLink RX8 16 RX3, Cond.instantiable RX3 1, Cond.initialized RX3, Cond.fieldLink RX8 19 "HiddenWorks" "maker" "LHiddenWorks$Maker;", Cond.classLink RX8 23 RX1, Cond.instantiable RX1 2, Cond.initialized RX1, Cond.fieldLink RX8 26 "HiddenWorks" "finder" "LHiddenWorks$Finder;", Cond.classLink RX8 30 RX7, Cond.instantiable RX7 8, Cond.initialized RX7, Cond.fieldLink RX8 33 "HiddenWorks" "heaped" "LHiddenWorks$Task;", Cond.arrayClass .int, Cond.fieldLink RX8 37 "HiddenWorks" "firstSigns" "[I", Cond.fieldLink RX8 41 "HiddenWorks" "secondSigns" "[I", Cond.fieldLink RX8 44 "HiddenWorks" "trueAnswers" "[I", Cond.classLink RX8 47 RX4]
def wsX8_init_r2 : List Cond := [Cond.fieldLink RX8 49 "HiddenWorks" "recipes" "[LHiddenWorks$Recipe;", Cond.instantiable RX4 5, Cond.initialized RX4, Cond.fieldLink RX8 54 "HiddenWorks" "tasks" "[LHiddenWorks$Task;", Cond.classLink RX8 58 RX0, Cond.fieldLink RX8 60 "HiddenWorks" "claims" "[LHiddenWorks$Claim;", Cond.instantiable RX0 4, Cond.initialized RX0, Cond.classLink RX8 65 RX5, Cond.fieldLink RX8 67 "HiddenWorks" "sheets" "[LHiddenWorks$Sheet;", Cond.instantiable RX5 3, Cond.initialized RX5, Cond.fieldLink RX8 72 "HiddenWorks" "tasksInImage" "I", Cond.methodLink RX8 9 yX6_init, Cond.instanceMethod yX6_init, Cond.code yX6_init cX6_init 1 none, Cond.methodLink RX6 3 objectInit, Cond.fieldLink RX6 9 "HiddenWorks$Tape" "bytes" "[I", Cond.methodLink RX8 18 yX3_init, Cond.instanceMethod yX3_init, Cond.code yX3_init cX3_init 1 none, Cond.methodLink RX3 3 objectInit, Cond.methodLink RX8 25 yX1_init, Cond.instanceMethod yX1_init]
def wsX8_init_r3 : List Cond := [Cond.code yX1_init cX1_init 1 none, Cond.methodLink RX1 1 objectInit, Cond.methodLink RX8 32 yX7_init, Cond.instanceMethod yX7_init, Cond.code yX7_init cX7_init 1 none, Cond.methodLink RX7 3 objectInit, Cond.fieldLink RX7 9 "HiddenWorks$Task" "plain" "[I", Cond.fieldLink RX7 15 "HiddenWorks$Task" "against" "[I", Cond.methodLink RX8 53 yX4_init, Cond.instanceMethod yX4_init, Cond.code yX4_init cX4_init 1 none, Cond.methodLink RX4 3 objectInit, Cond.fieldLink RX4 9 "HiddenWorks$Recipe" "weights" "[I", Cond.methodLink RX8 64 yX0_init, Cond.instanceMethod yX0_init, Cond.code yX0_init cX0_init 1 none, Cond.methodLink RX0 3 objectInit, Cond.methodLink RX8 71 yX5_init, Cond.instanceMethod yX5_init, Cond.code yX5_init cX5_init 1 none, Cond.methodLink RX5 3 objectInit, Cond.fieldLink RX5 9 "HiddenWorks$Sheet" "sort" "I", Cond.fieldLink RX5 15 "HiddenWorks$Sheet" "cells" "[I"]
def wsX8_init : List Cond := .code yX8_init cX8_init 2 none :: ((wsX8_init_r1 ++ (wsX8_init_r2 ++ wsX8_init_r3)) ++ wsX60 ++ wsX80 ++ wsX30 ++ wsX10 ++ wsX70 ++ wsX40 ++ wsX00 ++ wsX50)
def wsX8_feed : List Cond := .code yX8_feed cX8_feed 5 (some .int) :: ([.fieldLink RX8 10 "HiddenWorks" "tape" "LHiddenWorks$Tape;", .fieldLink RX8 76 "HiddenWorks$Tape" "size" "I", .methodLink RX8 79 yX6_put, .instanceMethod yX6_put, .selects RX6 yX6_put yX6_put, .initialized RX6, .code yX6_put cX6_put 2 none, .fieldLink RX6 15 "HiddenWorks$Tape" "size" "I", .fieldLink RX6 9 "HiddenWorks$Tape" "bytes" "[I"] ++ wsX80 ++ wsX60)
def wsX8_recipe_r1 : List Cond := [Cond.fieldLink RX8 83 "HiddenWorks" "recipeCount" "I", Cond.fieldLink RX8 10 "HiddenWorks" "tape" "LHiddenWorks$Tape;", Cond.fieldLink RX8 49 "HiddenWorks" "recipes" "[LHiddenWorks$Recipe;", Cond.fieldLink RX8 76 "HiddenWorks$Tape" "size" "I", Cond.methodLink RX8 86 yX6_readInto, Cond.instanceMethod yX6_readInto, Cond.selects RX6 yX6_readInto yX6_readInto, Cond.initialized RX6, Cond.code yX6_readInto cX6_readInto 3 (some .int), Cond.fieldLink RX6 19 "HiddenWorks$Tape" "place" "I", Cond.fieldLink RX6 22 "HiddenWorks$Tape" "fault" "I", Cond.fieldLink RX6 31 "HiddenWorks$Recipe" "kind" "I", Cond.fieldLink RX6 39 "HiddenWorks$Recipe" "letters" "I", Cond.fieldLink RX6 42 "HiddenWorks$Recipe" "clauses" "I", Cond.methodLink RX6 45 Lib.Math.min.name, Cond.static Lib.Math.min.name, Cond.initialized "java/lang/Math", Cond.code Lib.Math.min.name Lib.Math.min.code 2 (some .int), Cond.fieldLink RX6 51 "HiddenWorks$Recipe" "wide" "I", Cond.fieldLink RX6 54 "HiddenWorks$Recipe" "weights" "[I", Cond.fieldLink RX6 15 "HiddenWorks$Tape" "size" "I", Cond.methodLink RX6 27 yX6_named, Cond.instanceMethod yX6_named, Cond.selects RX6 yX6_named yX6_named]
def wsX8_recipe_r2 : List Cond := [Cond.code yX6_named cX6_named 4 (some .int), Cond.methodLink RX6 68 yX6_byteHere, Cond.instanceMethod yX6_byteHere, Cond.selects RX6 yX6_byteHere yX6_byteHere, Cond.code yX6_byteHere cX6_byteHere 1 (some .int), Cond.fieldLink RX6 9 "HiddenWorks$Tape" "bytes" "[I", Cond.methodLink RX6 61 yX6_number, Cond.instanceMethod yX6_number, Cond.selects RX6 yX6_number yX6_number, Cond.code yX6_number cX6_number 6 (some .int), Cond.methodLink RX6 36 yX6_gap, Cond.instanceMethod yX6_gap, Cond.selects RX6 yX6_gap yX6_gap, Cond.code yX6_gap cX6_gap 2 none, Cond.methodLink RX6 57 yX2_holds, Cond.static yX2_holds, Cond.initialized RX2, Cond.code yX2_holds cX2_holds 3 (some .boolean), Cond.methodLink RX6 64 yX4_allWays, Cond.instanceMethod yX4_allWays, Cond.selects RX4 yX4_allWays yX4_allWays, Cond.initialized RX4, Cond.code yX4_allWays cX4_allWays 3 (some .int), Cond.fieldLink RX4 15 "HiddenWorks$Recipe" "wide" "I"]
def wsX8_recipe_r3 : List Cond := [Cond.methodLink RX4 23 yX4_share, Cond.instanceMethod yX4_share, Cond.selects RX4 yX4_share yX4_share, Cond.code yX4_share cX4_share 2 (some .int), Cond.fieldLink RX4 9 "HiddenWorks$Recipe" "weights" "[I", Cond.methodLink RX4 19 yX4_ways, Cond.instanceMethod yX4_ways, Cond.selects RX4 yX4_ways yX4_ways, Cond.code yX4_ways cX4_ways 2 (some .int)]
def wsX8_recipe : List Cond := .code yX8_recipe cX8_recipe 2 (some .int) :: ((wsX8_recipe_r1 ++ (wsX8_recipe_r2 ++ wsX8_recipe_r3)) ++ wsX80 ++ wsX60 ++ wsX40)
def wsX8_recipeAt : List Cond := .code yX8_recipeAt cX8_recipeAt 2 (some (.object "HiddenWorks$Recipe")) :: ([.fieldLink RX8 83 "HiddenWorks" "recipeCount" "I", .fieldLink RX8 49 "HiddenWorks" "recipes" "[LHiddenWorks$Recipe;"] ++ wsX80)
def wsX8_recipeTold : List Cond := .code yX8_recipeTold cX8_recipeTold 4 (some .int) :: ([.fieldLink RX8 94 "HiddenWorks$Recipe" "kind" "I", .fieldLink RX8 97 "HiddenWorks$Recipe" "letters" "I", .fieldLink RX8 100 "HiddenWorks$Recipe" "clauses" "I", .fieldLink RX8 103 "HiddenWorks$Recipe" "wide" "I", .fieldLink RX8 106 "HiddenWorks$Recipe" "weights" "[I", .methodLink RX8 90 yX8_recipeAt, .instanceMethod yX8_recipeAt, .selects RX8 yX8_recipeAt yX8_recipeAt, .initialized RX8, .code yX8_recipeAt cX8_recipeAt 2 (some (.object "HiddenWorks$Recipe")), .fieldLink RX8 83 "HiddenWorks" "recipeCount" "I", .fieldLink RX8 49 "HiddenWorks" "recipes" "[LHiddenWorks$Recipe;"] ++ wsX40 ++ wsX80)
def wsX8_keepTask : List Cond := .code yX8_keepTask cX8_keepTask 1 (some .int) :: ([.fieldLink RX8 110 "HiddenWorks" "taskCount" "I"] ++ wsX80)
def wsX8_make_r1 : List Cond := [Cond.constant RX8 109 (100000), Cond.fieldLink RX8 110 "HiddenWorks" "taskCount" "I", Cond.fieldLink RX8 54 "HiddenWorks" "tasks" "[LHiddenWorks$Task;", Cond.fieldLink RX8 19 "HiddenWorks" "maker" "LHiddenWorks$Maker;", Cond.fieldLink RX8 117 "HiddenWorks$Task" "recipe" "I", Cond.fieldLink RX8 120 "HiddenWorks$Task" "seed" "I", Cond.methodLink RX8 90 yX8_recipeAt, Cond.instanceMethod yX8_recipeAt, Cond.selects RX8 yX8_recipeAt yX8_recipeAt, Cond.initialized RX8, Cond.code yX8_recipeAt cX8_recipeAt 2 (some (.object "HiddenWorks$Recipe")), Cond.fieldLink RX8 83 "HiddenWorks" "recipeCount" "I", Cond.fieldLink RX8 49 "HiddenWorks" "recipes" "[LHiddenWorks$Recipe;", Cond.methodLink RX8 113 yX3_fill, Cond.instanceMethod yX3_fill, Cond.selects RX3 yX3_fill yX3_fill, Cond.initialized RX3, Cond.code yX3_fill cX3_fill 8 none, Cond.fieldLink RX3 9 "HiddenWorks$Maker" "lot" "J", Cond.fieldLink RX3 15 "HiddenWorks$Recipe" "kind" "I", Cond.fieldLink RX3 21 "HiddenWorks$Recipe" "letters" "I", Cond.fieldLink RX3 34 "HiddenWorks$Task" "hidden" "I", Cond.fieldLink RX3 37 "HiddenWorks$Recipe" "clauses" "I", Cond.fieldLink RX3 40 "HiddenWorks$Recipe" "wide" "I"]
def wsX8_make_r2 : List Cond := [Cond.methodLink RX3 24 yX7_begin, Cond.instanceMethod yX7_begin, Cond.selects RX7 yX7_begin yX7_begin, Cond.initialized RX7, Cond.code yX7_begin cX7_begin 3 none, Cond.fieldLink RX7 18 "HiddenWorks$Task" "kind" "I", Cond.fieldLink RX7 22 "HiddenWorks$Task" "letters" "I", Cond.fieldLink RX7 25 "HiddenWorks$Task" "clauses" "I", Cond.fieldLink RX7 28 "HiddenWorks$Task" "hidden" "I", Cond.fieldLink RX7 31 "HiddenWorks$Task" "recipe" "I", Cond.fieldLink RX7 34 "HiddenWorks$Task" "seed" "I", Cond.methodLink RX3 30 yX3_draw, Cond.instanceMethod yX3_draw, Cond.selects RX3 yX3_draw yX3_draw, Cond.code yX3_draw cX3_draw 2 (some .int), Cond.constantLong RX3 54 (48271), Cond.constantLong RX3 56 (2147483647), Cond.constantLong RX3 58 (16), Cond.methodLink RX3 43 yX3_drawLetters, Cond.instanceMethod yX3_drawLetters, Cond.selects RX3 yX3_drawLetters yX3_drawLetters, Cond.code yX3_drawLetters cX3_drawLetters 7 (some .int), Cond.methodLink RX3 60 yX3_bitAt, Cond.static yX3_bitAt]
def wsX8_make_r3 : List Cond := [Cond.code yX3_bitAt cX3_bitAt 4 (some .int), Cond.methodLink RX3 47 yX3_drawTrue, Cond.instanceMethod yX3_drawTrue, Cond.selects RX3 yX3_drawTrue yX3_drawTrue, Cond.code yX3_drawTrue cX3_drawTrue 7 (some .int), Cond.fieldLink RX3 67 "HiddenWorks$Recipe" "weights" "[I", Cond.methodLink RX3 63 yX4_allWays, Cond.instanceMethod yX4_allWays, Cond.selects RX4 yX4_allWays yX4_allWays, Cond.initialized RX4, Cond.code yX4_allWays cX4_allWays 3 (some .int), Cond.fieldLink RX4 15 "HiddenWorks$Recipe" "wide" "I", Cond.methodLink RX4 23 yX4_share, Cond.instanceMethod yX4_share, Cond.selects RX4 yX4_share yX4_share, Cond.code yX4_share cX4_share 2 (some .int), Cond.fieldLink RX4 9 "HiddenWorks$Recipe" "weights" "[I", Cond.methodLink RX4 19 yX4_ways, Cond.instanceMethod yX4_ways, Cond.selects RX4 yX4_ways yX4_ways, Cond.code yX4_ways cX4_ways 2 (some .int), Cond.methodLink RX3 71 yX4_share, Cond.methodLink RX3 74 yX3_trueByWay, Cond.static yX3_trueByWay]
def wsX8_make_r4 : List Cond := [Cond.code yX3_trueByWay cX3_trueByWay 5 (some .int), Cond.methodLink RX3 51 yX7_addClause, Cond.instanceMethod yX7_addClause, Cond.selects RX7 yX7_addClause yX7_addClause, Cond.code yX7_addClause cX7_addClause 3 none, Cond.fieldLink RX7 9 "HiddenWorks$Task" "plain" "[I", Cond.fieldLink RX7 15 "HiddenWorks$Task" "against" "[I", Cond.methodLink RX8 123 yX8_keepTask, Cond.instanceMethod yX8_keepTask, Cond.selects RX8 yX8_keepTask yX8_keepTask, Cond.code yX8_keepTask cX8_keepTask 1 (some .int)]
def wsX8_make : List Cond := .code yX8_make cX8_make 5 (some .int) :: ((wsX8_make_r1 ++ (wsX8_make_r2 ++ (wsX8_make_r3 ++ wsX8_make_r4))) ++ wsX80 ++ wsX70 ++ wsX30 ++ wsX40)
def wsX8_isSheet : List Cond := .code yX8_isSheet cX8_isSheet 1 (some .boolean) :: ([])
def wsX8_isRow : List Cond := .code yX8_isRow cX8_isRow 2 (some .boolean) :: ([])
def wsX8_areClauses : List Cond := .code yX8_areClauses cX8_areClauses 7 (some .boolean) :: ([.fieldLink RX8 148 "HiddenWorks$Sheet" "size" "I", .fieldLink RX8 149 "HiddenWorks$Sheet" "cells" "[I", .methodLink RX8 155 yJ6_bitCount_0f7a4, .static yJ6_bitCount_0f7a4, .initialized RJ6, .code yJ6_bitCount_0f7a4 cJ6_bitCount_0f7a4 1 (some .int), .constant RJ6 265 (1431655765), .constant RJ6 266 (858993459), .constant RJ6 267 (252645135), .methodLink RX8 161 yX8_isRow, .static yX8_isRow, .initialized RX8, .code yX8_isRow cX8_isRow 2 (some .boolean)] ++ wsX50)
def wsX8_wild_r1 : List Cond := [Cond.fieldLink RX8 67 "HiddenWorks" "sheets" "[LHiddenWorks$Sheet;", Cond.fieldLink RX8 110 "HiddenWorks" "taskCount" "I", Cond.fieldLink RX8 54 "HiddenWorks" "tasks" "[LHiddenWorks$Task;", Cond.fieldLink RX8 148 "HiddenWorks$Sheet" "size" "I", Cond.fieldLink RX8 149 "HiddenWorks$Sheet" "cells" "[I", Cond.methodLink RX8 127 yX8_isSheet, Cond.static yX8_isSheet, Cond.initialized RX8, Cond.code yX8_isSheet cX8_isSheet 1 (some .boolean), Cond.methodLink RX8 131 yX2_exists, Cond.static yX2_exists, Cond.initialized RX2, Cond.code yX2_exists cX2_exists 1 (some .boolean), Cond.methodLink RX8 136 yX5_isMissing, Cond.instanceMethod yX5_isMissing, Cond.selects RX5 yX5_isMissing yX5_isMissing, Cond.initialized RX5, Cond.code yX5_isMissing cX5_isMissing 1 (some .boolean), Cond.fieldLink RX5 9 "HiddenWorks$Sheet" "sort" "I", Cond.methodLink RX8 140 yX8_areClauses, Cond.static yX8_areClauses, Cond.code yX8_areClauses cX8_areClauses 7 (some .boolean), Cond.methodLink RX8 155 yJ6_bitCount_0f7a4, Cond.static yJ6_bitCount_0f7a4]
def wsX8_wild_r2 : List Cond := [Cond.initialized RJ6, Cond.code yJ6_bitCount_0f7a4 cJ6_bitCount_0f7a4 1 (some .int), Cond.constant RJ6 265 (1431655765), Cond.constant RJ6 266 (858993459), Cond.constant RJ6 267 (252645135), Cond.methodLink RX8 161 yX8_isRow, Cond.static yX8_isRow, Cond.code yX8_isRow cX8_isRow 2 (some .boolean), Cond.methodLink RX8 144 yX7_begin, Cond.instanceMethod yX7_begin, Cond.selects RX7 yX7_begin yX7_begin, Cond.initialized RX7, Cond.code yX7_begin cX7_begin 3 none, Cond.fieldLink RX7 18 "HiddenWorks$Task" "kind" "I", Cond.fieldLink RX7 22 "HiddenWorks$Task" "letters" "I", Cond.fieldLink RX7 25 "HiddenWorks$Task" "clauses" "I", Cond.fieldLink RX7 28 "HiddenWorks$Task" "hidden" "I", Cond.fieldLink RX7 31 "HiddenWorks$Task" "recipe" "I", Cond.fieldLink RX7 34 "HiddenWorks$Task" "seed" "I", Cond.methodLink RX8 152 yX7_addClause, Cond.instanceMethod yX7_addClause, Cond.selects RX7 yX7_addClause yX7_addClause, Cond.code yX7_addClause cX7_addClause 3 none, Cond.fieldLink RX7 9 "HiddenWorks$Task" "plain" "[I"]
def wsX8_wild_r3 : List Cond := [Cond.fieldLink RX7 15 "HiddenWorks$Task" "against" "[I", Cond.methodLink RX8 123 yX8_keepTask, Cond.instanceMethod yX8_keepTask, Cond.selects RX8 yX8_keepTask yX8_keepTask, Cond.code yX8_keepTask cX8_keepTask 1 (some .int)]
def wsX8_wild : List Cond := .code yX8_wild cX8_wild 7 (some .int) :: ((wsX8_wild_r1 ++ (wsX8_wild_r2 ++ wsX8_wild_r3)) ++ wsX80 ++ wsX50 ++ wsX70)
def wsX8_taskAt : List Cond := .code yX8_taskAt cX8_taskAt 2 (some (.object "HiddenWorks$Task")) :: ([.fieldLink RX8 110 "HiddenWorks" "taskCount" "I", .fieldLink RX8 54 "HiddenWorks" "tasks" "[LHiddenWorks$Task;"] ++ wsX80)
def wsX8_taskTold : List Cond := .code yX8_taskTold cX8_taskTold 4 (some .int) :: ([.fieldLink RX8 169 "HiddenWorks$Task" "kind" "I", .fieldLink RX8 170 "HiddenWorks$Task" "letters" "I", .fieldLink RX8 171 "HiddenWorks$Task" "clauses" "I", .fieldLink RX8 172 "HiddenWorks$Task" "hidden" "I", .fieldLink RX8 117 "HiddenWorks$Task" "recipe" "I", .fieldLink RX8 120 "HiddenWorks$Task" "seed" "I", .methodLink RX8 165 yX8_taskAt, .instanceMethod yX8_taskAt, .selects RX8 yX8_taskAt yX8_taskAt, .initialized RX8, .code yX8_taskAt cX8_taskAt 2 (some (.object "HiddenWorks$Task")), .fieldLink RX8 110 "HiddenWorks" "taskCount" "I", .fieldLink RX8 54 "HiddenWorks" "tasks" "[LHiddenWorks$Task;"] ++ wsX70 ++ wsX80)
def wsX8_clauseTold : List Cond := .code yX8_clauseTold cX8_clauseTold 5 (some .int) :: ([.fieldLink RX8 171 "HiddenWorks$Task" "clauses" "I", .fieldLink RX8 175 "HiddenWorks$Task" "plain" "[I", .fieldLink RX8 178 "HiddenWorks$Task" "against" "[I", .methodLink RX8 165 yX8_taskAt, .instanceMethod yX8_taskAt, .selects RX8 yX8_taskAt yX8_taskAt, .initialized RX8, .code yX8_taskAt cX8_taskAt 2 (some (.object "HiddenWorks$Task")), .fieldLink RX8 110 "HiddenWorks" "taskCount" "I", .fieldLink RX8 54 "HiddenWorks" "tasks" "[LHiddenWorks$Task;"] ++ wsX70 ++ wsX80)
def wsX8_solves_r1 : List Cond := [Cond.fieldLink RX8 170 "HiddenWorks$Task" "letters" "I", Cond.methodLink RX8 165 yX8_taskAt, Cond.instanceMethod yX8_taskAt, Cond.selects RX8 yX8_taskAt yX8_taskAt, Cond.initialized RX8, Cond.code yX8_taskAt cX8_taskAt 2 (some (.object "HiddenWorks$Task")), Cond.fieldLink RX8 110 "HiddenWorks" "taskCount" "I", Cond.fieldLink RX8 54 "HiddenWorks" "tasks" "[LHiddenWorks$Task;", Cond.methodLink RX8 161 yX8_isRow, Cond.static yX8_isRow, Cond.code yX8_isRow cX8_isRow 2 (some .boolean), Cond.methodLink RX8 181 yX7_brokenFrom, Cond.instanceMethod yX7_brokenFrom, Cond.selects RX7 yX7_brokenFrom yX7_brokenFrom, Cond.initialized RX7, Cond.code yX7_brokenFrom cX7_brokenFrom 4 (some .int), Cond.fieldLink RX7 25 "HiddenWorks$Task" "clauses" "I", Cond.methodLink RX7 56 yX7_holds, Cond.instanceMethod yX7_holds, Cond.selects RX7 yX7_holds yX7_holds, Cond.code yX7_holds cX7_holds 3 (some .boolean), Cond.fieldLink RX7 18 "HiddenWorks$Task" "kind" "I", Cond.methodLink RX7 43 yX7_trueOnes, Cond.instanceMethod yX7_trueOnes]
def wsX8_solves_r2 : List Cond := [Cond.selects RX7 yX7_trueOnes yX7_trueOnes, Cond.code yX7_trueOnes cX7_trueOnes 3 (some .int), Cond.fieldLink RX7 9 "HiddenWorks$Task" "plain" "[I", Cond.fieldLink RX7 15 "HiddenWorks$Task" "against" "[I", Cond.methodLink RX7 37 yJ6_bitCount_0f7a4, Cond.static yJ6_bitCount_0f7a4, Cond.initialized RJ6, Cond.code yJ6_bitCount_0f7a4 cJ6_bitCount_0f7a4 1 (some .int), Cond.constant RJ6 265 (1431655765), Cond.constant RJ6 266 (858993459), Cond.constant RJ6 267 (252645135), Cond.methodLink RX7 47 yX7_width, Cond.instanceMethod yX7_width, Cond.selects RX7 yX7_width yX7_width, Cond.code yX7_width cX7_width 2 (some .int), Cond.methodLink RX7 50 yX2_holds, Cond.static yX2_holds, Cond.initialized RX2, Cond.code yX2_holds cX2_holds 3 (some .boolean)]
def wsX8_solves : List Cond := .code yX8_solves cX8_solves 4 (some .int) :: ((wsX8_solves_r1 ++ wsX8_solves_r2) ++ wsX70 ++ wsX80)
def wsX8_answers_r1 : List Cond := [Cond.fieldLink RX8 170 "HiddenWorks$Task" "letters" "I", Cond.methodLink RX8 165 yX8_taskAt, Cond.instanceMethod yX8_taskAt, Cond.selects RX8 yX8_taskAt yX8_taskAt, Cond.initialized RX8, Cond.code yX8_taskAt cX8_taskAt 2 (some (.object "HiddenWorks$Task")), Cond.fieldLink RX8 110 "HiddenWorks" "taskCount" "I", Cond.fieldLink RX8 54 "HiddenWorks" "tasks" "[LHiddenWorks$Task;", Cond.methodLink RX8 161 yX8_isRow, Cond.static yX8_isRow, Cond.code yX8_isRow cX8_isRow 2 (some .boolean), Cond.methodLink RX8 185 yX7_countAnswers, Cond.instanceMethod yX7_countAnswers, Cond.selects RX7 yX7_countAnswers yX7_countAnswers, Cond.initialized RX7, Cond.code yX7_countAnswers cX7_countAnswers 5 (some .int), Cond.methodLink RX7 62 yX7_rows, Cond.instanceMethod yX7_rows, Cond.selects RX7 yX7_rows yX7_rows, Cond.code yX7_rows cX7_rows 1 (some .int), Cond.fieldLink RX7 22 "HiddenWorks$Task" "letters" "I", Cond.methodLink RX7 66 yX7_isSolvedBy, Cond.instanceMethod yX7_isSolvedBy, Cond.selects RX7 yX7_isSolvedBy yX7_isSolvedBy]
def wsX8_answers_r2 : List Cond := [Cond.code yX7_isSolvedBy cX7_isSolvedBy 2 (some .boolean), Cond.methodLink RX7 59 yX7_brokenFrom, Cond.instanceMethod yX7_brokenFrom, Cond.selects RX7 yX7_brokenFrom yX7_brokenFrom, Cond.code yX7_brokenFrom cX7_brokenFrom 4 (some .int), Cond.fieldLink RX7 25 "HiddenWorks$Task" "clauses" "I", Cond.methodLink RX7 56 yX7_holds, Cond.instanceMethod yX7_holds, Cond.selects RX7 yX7_holds yX7_holds, Cond.code yX7_holds cX7_holds 3 (some .boolean), Cond.fieldLink RX7 18 "HiddenWorks$Task" "kind" "I", Cond.methodLink RX7 43 yX7_trueOnes, Cond.instanceMethod yX7_trueOnes, Cond.selects RX7 yX7_trueOnes yX7_trueOnes, Cond.code yX7_trueOnes cX7_trueOnes 3 (some .int), Cond.fieldLink RX7 9 "HiddenWorks$Task" "plain" "[I", Cond.fieldLink RX7 15 "HiddenWorks$Task" "against" "[I", Cond.methodLink RX7 37 yJ6_bitCount_0f7a4, Cond.static yJ6_bitCount_0f7a4, Cond.initialized RJ6, Cond.code yJ6_bitCount_0f7a4 cJ6_bitCount_0f7a4 1 (some .int), Cond.constant RJ6 265 (1431655765), Cond.constant RJ6 266 (858993459), Cond.constant RJ6 267 (252645135)]
def wsX8_answers_r3 : List Cond := [Cond.methodLink RX7 47 yX7_width, Cond.instanceMethod yX7_width, Cond.selects RX7 yX7_width yX7_width, Cond.code yX7_width cX7_width 2 (some .int), Cond.methodLink RX7 50 yX2_holds, Cond.static yX2_holds, Cond.initialized RX2, Cond.code yX2_holds cX2_holds 3 (some .boolean)]
def wsX8_answers : List Cond := .code yX8_answers cX8_answers 5 (some .int) :: ((wsX8_answers_r1 ++ (wsX8_answers_r2 ++ wsX8_answers_r3)) ++ wsX70 ++ wsX80)
def wsX8_answer_r1 : List Cond := [Cond.methodLink RX8 165 yX8_taskAt, Cond.instanceMethod yX8_taskAt, Cond.selects RX8 yX8_taskAt yX8_taskAt, Cond.initialized RX8, Cond.code yX8_taskAt cX8_taskAt 2 (some (.object "HiddenWorks$Task")), Cond.fieldLink RX8 110 "HiddenWorks" "taskCount" "I", Cond.fieldLink RX8 54 "HiddenWorks" "tasks" "[LHiddenWorks$Task;", Cond.methodLink RX8 188 yX7_rows, Cond.instanceMethod yX7_rows, Cond.selects RX7 yX7_rows yX7_rows, Cond.initialized RX7, Cond.code yX7_rows cX7_rows 1 (some .int), Cond.fieldLink RX7 22 "HiddenWorks$Task" "letters" "I", Cond.methodLink RX8 191 yX7_isSolvedBy, Cond.instanceMethod yX7_isSolvedBy, Cond.selects RX7 yX7_isSolvedBy yX7_isSolvedBy, Cond.code yX7_isSolvedBy cX7_isSolvedBy 2 (some .boolean), Cond.methodLink RX7 59 yX7_brokenFrom, Cond.instanceMethod yX7_brokenFrom, Cond.selects RX7 yX7_brokenFrom yX7_brokenFrom, Cond.code yX7_brokenFrom cX7_brokenFrom 4 (some .int), Cond.fieldLink RX7 25 "HiddenWorks$Task" "clauses" "I", Cond.methodLink RX7 56 yX7_holds, Cond.instanceMethod yX7_holds]
def wsX8_answer_r2 : List Cond := [Cond.selects RX7 yX7_holds yX7_holds, Cond.code yX7_holds cX7_holds 3 (some .boolean), Cond.fieldLink RX7 18 "HiddenWorks$Task" "kind" "I", Cond.methodLink RX7 43 yX7_trueOnes, Cond.instanceMethod yX7_trueOnes, Cond.selects RX7 yX7_trueOnes yX7_trueOnes, Cond.code yX7_trueOnes cX7_trueOnes 3 (some .int), Cond.fieldLink RX7 9 "HiddenWorks$Task" "plain" "[I", Cond.fieldLink RX7 15 "HiddenWorks$Task" "against" "[I", Cond.methodLink RX7 37 yJ6_bitCount_0f7a4, Cond.static yJ6_bitCount_0f7a4, Cond.initialized RJ6, Cond.code yJ6_bitCount_0f7a4 cJ6_bitCount_0f7a4 1 (some .int), Cond.constant RJ6 265 (1431655765), Cond.constant RJ6 266 (858993459), Cond.constant RJ6 267 (252645135), Cond.methodLink RX7 47 yX7_width, Cond.instanceMethod yX7_width, Cond.selects RX7 yX7_width yX7_width, Cond.code yX7_width cX7_width 2 (some .int), Cond.methodLink RX7 50 yX2_holds, Cond.static yX2_holds, Cond.initialized RX2, Cond.code yX2_holds cX2_holds 3 (some .boolean)]
def wsX8_answer : List Cond := .code yX8_answer cX8_answer 6 (some .int) :: ((wsX8_answer_r1 ++ wsX8_answer_r2) ++ wsX80 ++ wsX70)
def wsX8_nearest_r1 : List Cond := [Cond.fieldLink RX8 170 "HiddenWorks$Task" "letters" "I", Cond.methodLink RX8 165 yX8_taskAt, Cond.instanceMethod yX8_taskAt, Cond.selects RX8 yX8_taskAt yX8_taskAt, Cond.initialized RX8, Cond.code yX8_taskAt cX8_taskAt 2 (some (.object "HiddenWorks$Task")), Cond.fieldLink RX8 110 "HiddenWorks" "taskCount" "I", Cond.fieldLink RX8 54 "HiddenWorks" "tasks" "[LHiddenWorks$Task;", Cond.methodLink RX8 161 yX8_isRow, Cond.static yX8_isRow, Cond.code yX8_isRow cX8_isRow 2 (some .boolean), Cond.methodLink RX8 188 yX7_rows, Cond.instanceMethod yX7_rows, Cond.selects RX7 yX7_rows yX7_rows, Cond.initialized RX7, Cond.code yX7_rows cX7_rows 1 (some .int), Cond.fieldLink RX7 22 "HiddenWorks$Task" "letters" "I", Cond.methodLink RX8 155 yJ6_bitCount_0f7a4, Cond.static yJ6_bitCount_0f7a4, Cond.initialized RJ6, Cond.code yJ6_bitCount_0f7a4 cJ6_bitCount_0f7a4 1 (some .int), Cond.constant RJ6 265 (1431655765), Cond.constant RJ6 266 (858993459), Cond.constant RJ6 267 (252645135)]
def wsX8_nearest_r2 : List Cond := [Cond.methodLink RX8 191 yX7_isSolvedBy, Cond.instanceMethod yX7_isSolvedBy, Cond.selects RX7 yX7_isSolvedBy yX7_isSolvedBy, Cond.code yX7_isSolvedBy cX7_isSolvedBy 2 (some .boolean), Cond.methodLink RX7 59 yX7_brokenFrom, Cond.instanceMethod yX7_brokenFrom, Cond.selects RX7 yX7_brokenFrom yX7_brokenFrom, Cond.code yX7_brokenFrom cX7_brokenFrom 4 (some .int), Cond.fieldLink RX7 25 "HiddenWorks$Task" "clauses" "I", Cond.methodLink RX7 56 yX7_holds, Cond.instanceMethod yX7_holds, Cond.selects RX7 yX7_holds yX7_holds, Cond.code yX7_holds cX7_holds 3 (some .boolean), Cond.fieldLink RX7 18 "HiddenWorks$Task" "kind" "I", Cond.methodLink RX7 43 yX7_trueOnes, Cond.instanceMethod yX7_trueOnes, Cond.selects RX7 yX7_trueOnes yX7_trueOnes, Cond.code yX7_trueOnes cX7_trueOnes 3 (some .int), Cond.fieldLink RX7 9 "HiddenWorks$Task" "plain" "[I", Cond.fieldLink RX7 15 "HiddenWorks$Task" "against" "[I", Cond.methodLink RX7 37 yJ6_bitCount_0f7a4, Cond.methodLink RX7 47 yX7_width, Cond.instanceMethod yX7_width, Cond.selects RX7 yX7_width yX7_width]
def wsX8_nearest_r3 : List Cond := [Cond.code yX7_width cX7_width 2 (some .int), Cond.methodLink RX7 50 yX2_holds, Cond.static yX2_holds, Cond.initialized RX2, Cond.code yX2_holds cX2_holds 3 (some .boolean)]
def wsX8_nearest : List Cond := .code yX8_nearest cX8_nearest 8 (some .int) :: ((wsX8_nearest_r1 ++ (wsX8_nearest_r2 ++ wsX8_nearest_r3)) ++ wsX70 ++ wsX80)
def wsX8_hint_r1 : List Cond := [Cond.fieldLink RX8 44 "HiddenWorks" "trueAnswers" "[I", Cond.fieldLink RX8 170 "HiddenWorks$Task" "letters" "I", Cond.methodLink RX8 165 yX8_taskAt, Cond.instanceMethod yX8_taskAt, Cond.selects RX8 yX8_taskAt yX8_taskAt, Cond.initialized RX8, Cond.code yX8_taskAt cX8_taskAt 2 (some (.object "HiddenWorks$Task")), Cond.fieldLink RX8 110 "HiddenWorks" "taskCount" "I", Cond.fieldLink RX8 54 "HiddenWorks" "tasks" "[LHiddenWorks$Task;", Cond.methodLink RX8 194 yX7_tallyAnswers, Cond.instanceMethod yX7_tallyAnswers, Cond.selects RX7 yX7_tallyAnswers yX7_tallyAnswers, Cond.initialized RX7, Cond.code yX7_tallyAnswers cX7_tallyAnswers 5 (some .int), Cond.fieldLink RX7 22 "HiddenWorks$Task" "letters" "I", Cond.methodLink RX7 70 yJ7_fill_53178, Cond.static yJ7_fill_53178, Cond.initialized RJ7, Cond.code yJ7_fill_53178 cJ7_fill_53178 4 none, Cond.methodLink RX7 62 yX7_rows, Cond.instanceMethod yX7_rows, Cond.selects RX7 yX7_rows yX7_rows, Cond.code yX7_rows cX7_rows 1 (some .int), Cond.methodLink RX7 66 yX7_isSolvedBy]
def wsX8_hint_r2 : List Cond := [Cond.instanceMethod yX7_isSolvedBy, Cond.selects RX7 yX7_isSolvedBy yX7_isSolvedBy, Cond.code yX7_isSolvedBy cX7_isSolvedBy 2 (some .boolean), Cond.methodLink RX7 59 yX7_brokenFrom, Cond.instanceMethod yX7_brokenFrom, Cond.selects RX7 yX7_brokenFrom yX7_brokenFrom, Cond.code yX7_brokenFrom cX7_brokenFrom 4 (some .int), Cond.fieldLink RX7 25 "HiddenWorks$Task" "clauses" "I", Cond.methodLink RX7 56 yX7_holds, Cond.instanceMethod yX7_holds, Cond.selects RX7 yX7_holds yX7_holds, Cond.code yX7_holds cX7_holds 3 (some .boolean), Cond.fieldLink RX7 18 "HiddenWorks$Task" "kind" "I", Cond.methodLink RX7 43 yX7_trueOnes, Cond.instanceMethod yX7_trueOnes, Cond.selects RX7 yX7_trueOnes yX7_trueOnes, Cond.code yX7_trueOnes cX7_trueOnes 3 (some .int), Cond.fieldLink RX7 9 "HiddenWorks$Task" "plain" "[I", Cond.fieldLink RX7 15 "HiddenWorks$Task" "against" "[I", Cond.methodLink RX7 37 yJ6_bitCount_0f7a4, Cond.static yJ6_bitCount_0f7a4, Cond.initialized RJ6, Cond.code yJ6_bitCount_0f7a4 cJ6_bitCount_0f7a4 1 (some .int), Cond.constant RJ6 265 (1431655765)]
def wsX8_hint_r3 : List Cond := [Cond.constant RJ6 266 (858993459), Cond.constant RJ6 267 (252645135), Cond.methodLink RX7 47 yX7_width, Cond.instanceMethod yX7_width, Cond.selects RX7 yX7_width yX7_width, Cond.code yX7_width cX7_width 2 (some .int), Cond.methodLink RX7 50 yX2_holds, Cond.static yX2_holds, Cond.initialized RX2, Cond.code yX2_holds cX2_holds 3 (some .boolean)]
def wsX8_hint : List Cond := .code yX8_hint cX8_hint 9 (some .int) :: ((wsX8_hint_r1 ++ (wsX8_hint_r2 ++ wsX8_hint_r3)) ++ wsX80 ++ wsX70)
def wsX8_needed_r1 : List Cond := [Cond.methodLink RX8 165 yX8_taskAt, Cond.instanceMethod yX8_taskAt, Cond.selects RX8 yX8_taskAt yX8_taskAt, Cond.initialized RX8, Cond.code yX8_taskAt cX8_taskAt 2 (some (.object "HiddenWorks$Task")), Cond.fieldLink RX8 110 "HiddenWorks" "taskCount" "I", Cond.fieldLink RX8 54 "HiddenWorks" "tasks" "[LHiddenWorks$Task;", Cond.methodLink RX8 188 yX7_rows, Cond.instanceMethod yX7_rows, Cond.selects RX7 yX7_rows yX7_rows, Cond.initialized RX7, Cond.code yX7_rows cX7_rows 1 (some .int), Cond.fieldLink RX7 22 "HiddenWorks$Task" "letters" "I", Cond.methodLink RX8 181 yX7_brokenFrom, Cond.instanceMethod yX7_brokenFrom, Cond.selects RX7 yX7_brokenFrom yX7_brokenFrom, Cond.code yX7_brokenFrom cX7_brokenFrom 4 (some .int), Cond.fieldLink RX7 25 "HiddenWorks$Task" "clauses" "I", Cond.methodLink RX7 56 yX7_holds, Cond.instanceMethod yX7_holds, Cond.selects RX7 yX7_holds yX7_holds, Cond.code yX7_holds cX7_holds 3 (some .boolean), Cond.fieldLink RX7 18 "HiddenWorks$Task" "kind" "I", Cond.methodLink RX7 43 yX7_trueOnes]
def wsX8_needed_r2 : List Cond := [Cond.instanceMethod yX7_trueOnes, Cond.selects RX7 yX7_trueOnes yX7_trueOnes, Cond.code yX7_trueOnes cX7_trueOnes 3 (some .int), Cond.fieldLink RX7 9 "HiddenWorks$Task" "plain" "[I", Cond.fieldLink RX7 15 "HiddenWorks$Task" "against" "[I", Cond.methodLink RX7 37 yJ6_bitCount_0f7a4, Cond.static yJ6_bitCount_0f7a4, Cond.initialized RJ6, Cond.code yJ6_bitCount_0f7a4 cJ6_bitCount_0f7a4 1 (some .int), Cond.constant RJ6 265 (1431655765), Cond.constant RJ6 266 (858993459), Cond.constant RJ6 267 (252645135), Cond.methodLink RX7 47 yX7_width, Cond.instanceMethod yX7_width, Cond.selects RX7 yX7_width yX7_width, Cond.code yX7_width cX7_width 2 (some .int), Cond.methodLink RX7 50 yX2_holds, Cond.static yX2_holds, Cond.initialized RX2, Cond.code yX2_holds cX2_holds 3 (some .boolean)]
def wsX8_needed : List Cond := .code yX8_needed cX8_needed 6 (some .int) :: ((wsX8_needed_r1 ++ wsX8_needed_r2) ++ wsX80 ++ wsX70)
def wsX8_lean : List Cond := .code yX8_lean cX8_lean 5 (some .int) :: ([.fieldLink RX8 170 "HiddenWorks$Task" "letters" "I", .fieldLink RX8 172 "HiddenWorks$Task" "hidden" "I", .methodLink RX8 165 yX8_taskAt, .instanceMethod yX8_taskAt, .selects RX8 yX8_taskAt yX8_taskAt, .initialized RX8, .code yX8_taskAt cX8_taskAt 2 (some (.object "HiddenWorks$Task")), .fieldLink RX8 110 "HiddenWorks" "taskCount" "I", .fieldLink RX8 54 "HiddenWorks" "tasks" "[LHiddenWorks$Task;", .methodLink RX8 198 yX7_excess, .instanceMethod yX7_excess, .selects RX7 yX7_excess yX7_excess, .initialized RX7, .code yX7_excess cX7_excess 4 (some .int), .fieldLink RX7 25 "HiddenWorks$Task" "clauses" "I", .fieldLink RX7 9 "HiddenWorks$Task" "plain" "[I", .fieldLink RX7 15 "HiddenWorks$Task" "against" "[I"] ++ wsX70 ++ wsX80)
def wsX8_greatestShared : List Cond := .code yX8_greatestShared cX8_greatestShared 6 (some .int) :: ([])
def wsX8_partInLowestTerms : List Cond := .code yX8_partInLowestTerms cX8_partInLowestTerms 5 (some .long) :: ([.methodLink RX8 219 Lib.Math.abs.name, .static Lib.Math.abs.name, .initialized "java/lang/Math", .code Lib.Math.abs.name Lib.Math.abs.code 1 (some .int), .methodLink RX8 224 yX8_greatestShared, .static yX8_greatestShared, .initialized RX8, .code yX8_greatestShared cX8_greatestShared 6 (some .int)])
def wsX8_leans_r1 : List Cond := [Cond.constantLong RX8 201 (-4611686018427387904), Cond.fieldLink RX8 103 "HiddenWorks$Recipe" "wide" "I", Cond.methodLink RX8 90 yX8_recipeAt, Cond.instanceMethod yX8_recipeAt, Cond.selects RX8 yX8_recipeAt yX8_recipeAt, Cond.initialized RX8, Cond.code yX8_recipeAt cX8_recipeAt 2 (some (.object "HiddenWorks$Recipe")), Cond.fieldLink RX8 83 "HiddenWorks" "recipeCount" "I", Cond.fieldLink RX8 49 "HiddenWorks" "recipes" "[LHiddenWorks$Recipe;", Cond.methodLink RX8 203 yX4_leaning, Cond.instanceMethod yX4_leaning, Cond.selects RX4 yX4_leaning yX4_leaning, Cond.initialized RX4, Cond.code yX4_leaning cX4_leaning 3 (some .int), Cond.fieldLink RX4 15 "HiddenWorks$Recipe" "wide" "I", Cond.methodLink RX4 23 yX4_share, Cond.instanceMethod yX4_share, Cond.selects RX4 yX4_share yX4_share, Cond.code yX4_share cX4_share 2 (some .int), Cond.fieldLink RX4 9 "HiddenWorks$Recipe" "weights" "[I", Cond.methodLink RX4 19 yX4_ways, Cond.instanceMethod yX4_ways, Cond.selects RX4 yX4_ways yX4_ways, Cond.code yX4_ways cX4_ways 2 (some .int)]
def wsX8_leans_r2 : List Cond := [Cond.methodLink RX8 206 yX4_allWays, Cond.instanceMethod yX4_allWays, Cond.selects RX4 yX4_allWays yX4_allWays, Cond.code yX4_allWays cX4_allWays 3 (some .int), Cond.methodLink RX8 209 yX8_partInLowestTerms, Cond.static yX8_partInLowestTerms, Cond.code yX8_partInLowestTerms cX8_partInLowestTerms 5 (some .long), Cond.methodLink RX8 219 Lib.Math.abs.name, Cond.static Lib.Math.abs.name, Cond.initialized "java/lang/Math", Cond.code Lib.Math.abs.name Lib.Math.abs.code 1 (some .int), Cond.methodLink RX8 224 yX8_greatestShared, Cond.static yX8_greatestShared, Cond.code yX8_greatestShared cX8_greatestShared 6 (some .int)]
def wsX8_leans : List Cond := .code yX8_leans cX8_leans 4 (some .long) :: ((wsX8_leans_r1 ++ wsX8_leans_r2) ++ wsX40 ++ wsX80)
def wsX8_pairs_r1 : List Cond := [Cond.constantLong RX8 201 (-4611686018427387904), Cond.methodLink RX8 90 yX8_recipeAt, Cond.instanceMethod yX8_recipeAt, Cond.selects RX8 yX8_recipeAt yX8_recipeAt, Cond.initialized RX8, Cond.code yX8_recipeAt cX8_recipeAt 2 (some (.object "HiddenWorks$Recipe")), Cond.fieldLink RX8 83 "HiddenWorks" "recipeCount" "I", Cond.fieldLink RX8 49 "HiddenWorks" "recipes" "[LHiddenWorks$Recipe;", Cond.methodLink RX8 213 yX4_pairing, Cond.instanceMethod yX4_pairing, Cond.selects RX4 yX4_pairing yX4_pairing, Cond.initialized RX4, Cond.code yX4_pairing cX4_pairing 4 (some .int), Cond.fieldLink RX4 15 "HiddenWorks$Recipe" "wide" "I", Cond.methodLink RX4 23 yX4_share, Cond.instanceMethod yX4_share, Cond.selects RX4 yX4_share yX4_share, Cond.code yX4_share cX4_share 2 (some .int), Cond.fieldLink RX4 9 "HiddenWorks$Recipe" "weights" "[I", Cond.methodLink RX4 19 yX4_ways, Cond.instanceMethod yX4_ways, Cond.selects RX4 yX4_ways yX4_ways, Cond.code yX4_ways cX4_ways 2 (some .int), Cond.methodLink RX4 26 yX4_pairCount]
def wsX8_pairs_r2 : List Cond := [Cond.instanceMethod yX4_pairCount, Cond.selects RX4 yX4_pairCount yX4_pairCount, Cond.code yX4_pairCount cX4_pairCount 1 (some .int), Cond.methodLink RX8 206 yX4_allWays, Cond.instanceMethod yX4_allWays, Cond.selects RX4 yX4_allWays yX4_allWays, Cond.code yX4_allWays cX4_allWays 3 (some .int), Cond.methodLink RX8 216 yX4_pairCount, Cond.methodLink RX8 209 yX8_partInLowestTerms, Cond.static yX8_partInLowestTerms, Cond.code yX8_partInLowestTerms cX8_partInLowestTerms 5 (some .long), Cond.methodLink RX8 219 Lib.Math.abs.name, Cond.static Lib.Math.abs.name, Cond.initialized "java/lang/Math", Cond.code Lib.Math.abs.name Lib.Math.abs.code 1 (some .int), Cond.methodLink RX8 224 yX8_greatestShared, Cond.static yX8_greatestShared, Cond.code yX8_greatestShared cX8_greatestShared 6 (some .int)]
def wsX8_pairs : List Cond := .code yX8_pairs cX8_pairs 4 (some .long) :: ((wsX8_pairs_r1 ++ wsX8_pairs_r2) ++ wsX80 ++ wsX40)
def wsX8_balance_r1 : List Cond := [Cond.fieldLink RX8 103 "HiddenWorks$Recipe" "wide" "I", Cond.fieldLink RX8 106 "HiddenWorks$Recipe" "weights" "[I", Cond.methodLink RX8 219 Lib.Math.abs.name, Cond.static Lib.Math.abs.name, Cond.initialized "java/lang/Math", Cond.code Lib.Math.abs.name Lib.Math.abs.code 1 (some .int), Cond.methodLink RX8 90 yX8_recipeAt, Cond.instanceMethod yX8_recipeAt, Cond.selects RX8 yX8_recipeAt yX8_recipeAt, Cond.initialized RX8, Cond.code yX8_recipeAt cX8_recipeAt 2 (some (.object "HiddenWorks$Recipe")), Cond.fieldLink RX8 83 "HiddenWorks" "recipeCount" "I", Cond.fieldLink RX8 49 "HiddenWorks" "recipes" "[LHiddenWorks$Recipe;", Cond.methodLink RX8 227 yX4_balancesWith, Cond.instanceMethod yX4_balancesWith, Cond.selects RX4 yX4_balancesWith yX4_balancesWith, Cond.initialized RX4, Cond.code yX4_balancesWith cX4_balancesWith 5 (some .boolean), Cond.fieldLink RX4 30 "HiddenWorks$Recipe" "kind" "I", Cond.fieldLink RX4 15 "HiddenWorks$Recipe" "wide" "I", Cond.fieldLink RX4 9 "HiddenWorks$Recipe" "weights" "[I", Cond.methodLink RX4 33 yX2_holds, Cond.static yX2_holds, Cond.initialized RX2]
def wsX8_balance_r2 : List Cond := [Cond.code yX2_holds cX2_holds 3 (some .boolean), Cond.methodLink RX4 39 yX4_leaning, Cond.instanceMethod yX4_leaning, Cond.selects RX4 yX4_leaning yX4_leaning, Cond.code yX4_leaning cX4_leaning 3 (some .int), Cond.methodLink RX4 23 yX4_share, Cond.instanceMethod yX4_share, Cond.selects RX4 yX4_share yX4_share, Cond.code yX4_share cX4_share 2 (some .int), Cond.methodLink RX4 19 yX4_ways, Cond.instanceMethod yX4_ways, Cond.selects RX4 yX4_ways yX4_ways, Cond.code yX4_ways cX4_ways 2 (some .int), Cond.methodLink RX4 42 yX4_allWays, Cond.instanceMethod yX4_allWays, Cond.selects RX4 yX4_allWays yX4_allWays, Cond.code yX4_allWays cX4_allWays 3 (some .int)]
def wsX8_balance : List Cond := .code yX8_balance cX8_balance 8 (some .int) :: ((wsX8_balance_r1 ++ wsX8_balance_r2) ++ wsX40 ++ wsX80)
def wsX8_isFinder : List Cond := .code yX8_isFinder cX8_isFinder 1 (some .boolean) :: ([])
def wsX8_find_r1 : List Cond := [Cond.fieldLink RX8 26 "HiddenWorks" "finder" "LHiddenWorks$Finder;", Cond.fieldLink RX8 237 "HiddenWorks$Finder" "found" "I", Cond.fieldLink RX8 240 "HiddenWorks$Finder" "steps" "I", Cond.methodLink RX8 165 yX8_taskAt, Cond.instanceMethod yX8_taskAt, Cond.selects RX8 yX8_taskAt yX8_taskAt, Cond.initialized RX8, Cond.code yX8_taskAt cX8_taskAt 2 (some (.object "HiddenWorks$Task")), Cond.fieldLink RX8 110 "HiddenWorks" "taskCount" "I", Cond.fieldLink RX8 54 "HiddenWorks" "tasks" "[LHiddenWorks$Task;", Cond.methodLink RX8 230 yX8_isFinder, Cond.static yX8_isFinder, Cond.code yX8_isFinder cX8_isFinder 1 (some .boolean), Cond.methodLink RX8 233 yX1_seek, Cond.instanceMethod yX1_seek, Cond.selects RX1 yX1_seek yX1_seek, Cond.initialized RX1, Cond.code yX1_seek cX1_seek 4 none, Cond.fieldLink RX1 7 "HiddenWorks$Finder" "found" "I", Cond.fieldLink RX1 13 "HiddenWorks$Finder" "steps" "I", Cond.methodLink RX1 22 Lib.Math.min.name, Cond.static Lib.Math.min.name, Cond.initialized "java/lang/Math", Cond.code Lib.Math.min.name Lib.Math.min.code 2 (some .int)]
def wsX8_find_r2 : List Cond := [Cond.methodLink RX1 16 yX7_countsRow, Cond.instanceMethod yX7_countsRow, Cond.selects RX7 yX7_countsRow yX7_countsRow, Cond.initialized RX7, Cond.code yX7_countsRow cX7_countsRow 3 (some .int), Cond.fieldLink RX7 22 "HiddenWorks$Task" "letters" "I", Cond.methodLink RX7 76 yX7_excess, Cond.instanceMethod yX7_excess, Cond.selects RX7 yX7_excess yX7_excess, Cond.code yX7_excess cX7_excess 4 (some .int), Cond.fieldLink RX7 25 "HiddenWorks$Task" "clauses" "I", Cond.fieldLink RX7 9 "HiddenWorks$Task" "plain" "[I", Cond.fieldLink RX7 15 "HiddenWorks$Task" "against" "[I", Cond.methodLink RX1 28 yX1_climb, Cond.instanceMethod yX1_climb, Cond.selects RX1 yX1_climb yX1_climb, Cond.code yX1_climb cX1_climb 6 none, Cond.methodLink RX1 39 yX7_isSolvedBy, Cond.instanceMethod yX7_isSolvedBy, Cond.selects RX7 yX7_isSolvedBy yX7_isSolvedBy, Cond.code yX7_isSolvedBy cX7_isSolvedBy 2 (some .boolean), Cond.methodLink RX7 59 yX7_brokenFrom, Cond.instanceMethod yX7_brokenFrom, Cond.selects RX7 yX7_brokenFrom yX7_brokenFrom]
def wsX8_find_r3 : List Cond := [Cond.code yX7_brokenFrom cX7_brokenFrom 4 (some .int), Cond.methodLink RX7 56 yX7_holds, Cond.instanceMethod yX7_holds, Cond.selects RX7 yX7_holds yX7_holds, Cond.code yX7_holds cX7_holds 3 (some .boolean), Cond.fieldLink RX7 18 "HiddenWorks$Task" "kind" "I", Cond.methodLink RX7 43 yX7_trueOnes, Cond.instanceMethod yX7_trueOnes, Cond.selects RX7 yX7_trueOnes yX7_trueOnes, Cond.code yX7_trueOnes cX7_trueOnes 3 (some .int), Cond.methodLink RX7 37 yJ6_bitCount_0f7a4, Cond.static yJ6_bitCount_0f7a4, Cond.initialized RJ6, Cond.code yJ6_bitCount_0f7a4 cJ6_bitCount_0f7a4 1 (some .int), Cond.constant RJ6 265 (1431655765), Cond.constant RJ6 266 (858993459), Cond.constant RJ6 267 (252645135), Cond.methodLink RX7 47 yX7_width, Cond.instanceMethod yX7_width, Cond.selects RX7 yX7_width yX7_width, Cond.code yX7_width cX7_width 2 (some .int), Cond.methodLink RX7 50 yX2_holds, Cond.static yX2_holds, Cond.initialized RX2]
def wsX8_find_r4 : List Cond := [Cond.code yX2_holds cX2_holds 3 (some .boolean), Cond.methodLink RX1 43 yX1_rowAfter, Cond.instanceMethod yX1_rowAfter, Cond.selects RX1 yX1_rowAfter yX1_rowAfter, Cond.code yX1_rowAfter cX1_rowAfter 7 (some .int), Cond.fieldLink RX1 50 "HiddenWorks$Task" "letters" "I", Cond.methodLink RX1 47 yX7_rows, Cond.instanceMethod yX7_rows, Cond.selects RX7 yX7_rows yX7_rows, Cond.code yX7_rows cX7_rows 1 (some .int), Cond.methodLink RX1 53 yX7_gainByTurning, Cond.instanceMethod yX7_gainByTurning, Cond.selects RX7 yX7_gainByTurning yX7_gainByTurning, Cond.code yX7_gainByTurning cX7_gainByTurning 7 (some .int), Cond.methodLink RX7 79 yX2_worth, Cond.static yX2_worth, Cond.code yX2_worth cX2_worth 4 (some .int), Cond.methodLink RX2 9 yX2_holds, Cond.methodLink RX1 32 yX1_search, Cond.instanceMethod yX1_search, Cond.selects RX1 yX1_search yX1_search, Cond.code yX1_search cX1_search 6 none, Cond.methodLink RX1 56 yX7_holdsSoFar, Cond.instanceMethod yX7_holdsSoFar]
def wsX8_find_r5 : List Cond := [Cond.selects RX7 yX7_holdsSoFar yX7_holdsSoFar, Cond.code yX7_holdsSoFar cX7_holdsSoFar 5 (some .boolean), Cond.methodLink RX8 243 yX1_foundHidden, Cond.instanceMethod yX1_foundHidden, Cond.selects RX1 yX1_foundHidden yX1_foundHidden, Cond.code yX1_foundHidden cX1_foundHidden 2 (some .boolean), Cond.fieldLink RX1 36 "HiddenWorks$Task" "hidden" "I"]
def wsX8_find : List Cond := .code yX8_find cX8_find 6 (some .int) :: ((wsX8_find_r1 ++ (wsX8_find_r2 ++ (wsX8_find_r3 ++ (wsX8_find_r4 ++ wsX8_find_r5)))) ++ wsX80 ++ wsX10 ++ wsX70)
def wsX8_isHeap : List Cond := .code yX8_isHeap cX8_isHeap 2 (some .boolean) :: ([.constant RX8 109 (100000)])
def wsX8_heap_r1 : List Cond := [Cond.fieldLink RX8 19 "HiddenWorks" "maker" "LHiddenWorks$Maker;", Cond.fieldLink RX8 33 "HiddenWorks" "heaped" "LHiddenWorks$Task;", Cond.fieldLink RX8 26 "HiddenWorks" "finder" "LHiddenWorks$Finder;", Cond.fieldLink RX8 237 "HiddenWorks$Finder" "found" "I", Cond.methodLink RX8 90 yX8_recipeAt, Cond.instanceMethod yX8_recipeAt, Cond.selects RX8 yX8_recipeAt yX8_recipeAt, Cond.initialized RX8, Cond.code yX8_recipeAt cX8_recipeAt 2 (some (.object "HiddenWorks$Recipe")), Cond.fieldLink RX8 83 "HiddenWorks" "recipeCount" "I", Cond.fieldLink RX8 49 "HiddenWorks" "recipes" "[LHiddenWorks$Recipe;", Cond.methodLink RX8 247 yX8_isHeap, Cond.static yX8_isHeap, Cond.code yX8_isHeap cX8_isHeap 2 (some .boolean), Cond.constant RX8 109 (100000), Cond.methodLink RX8 230 yX8_isFinder, Cond.static yX8_isFinder, Cond.code yX8_isFinder cX8_isFinder 1 (some .boolean), Cond.methodLink RX8 113 yX3_fill, Cond.instanceMethod yX3_fill, Cond.selects RX3 yX3_fill yX3_fill, Cond.initialized RX3, Cond.code yX3_fill cX3_fill 8 none, Cond.fieldLink RX3 9 "HiddenWorks$Maker" "lot" "J"]
def wsX8_heap_r2 : List Cond := [Cond.fieldLink RX3 15 "HiddenWorks$Recipe" "kind" "I", Cond.fieldLink RX3 21 "HiddenWorks$Recipe" "letters" "I", Cond.fieldLink RX3 34 "HiddenWorks$Task" "hidden" "I", Cond.fieldLink RX3 37 "HiddenWorks$Recipe" "clauses" "I", Cond.fieldLink RX3 40 "HiddenWorks$Recipe" "wide" "I", Cond.methodLink RX3 24 yX7_begin, Cond.instanceMethod yX7_begin, Cond.selects RX7 yX7_begin yX7_begin, Cond.initialized RX7, Cond.code yX7_begin cX7_begin 3 none, Cond.fieldLink RX7 18 "HiddenWorks$Task" "kind" "I", Cond.fieldLink RX7 22 "HiddenWorks$Task" "letters" "I", Cond.fieldLink RX7 25 "HiddenWorks$Task" "clauses" "I", Cond.fieldLink RX7 28 "HiddenWorks$Task" "hidden" "I", Cond.fieldLink RX7 31 "HiddenWorks$Task" "recipe" "I", Cond.fieldLink RX7 34 "HiddenWorks$Task" "seed" "I", Cond.methodLink RX3 30 yX3_draw, Cond.instanceMethod yX3_draw, Cond.selects RX3 yX3_draw yX3_draw, Cond.code yX3_draw cX3_draw 2 (some .int), Cond.constantLong RX3 54 (48271), Cond.constantLong RX3 56 (2147483647), Cond.constantLong RX3 58 (16), Cond.methodLink RX3 43 yX3_drawLetters]
def wsX8_heap_r3 : List Cond := [Cond.instanceMethod yX3_drawLetters, Cond.selects RX3 yX3_drawLetters yX3_drawLetters, Cond.code yX3_drawLetters cX3_drawLetters 7 (some .int), Cond.methodLink RX3 60 yX3_bitAt, Cond.static yX3_bitAt, Cond.code yX3_bitAt cX3_bitAt 4 (some .int), Cond.methodLink RX3 47 yX3_drawTrue, Cond.instanceMethod yX3_drawTrue, Cond.selects RX3 yX3_drawTrue yX3_drawTrue, Cond.code yX3_drawTrue cX3_drawTrue 7 (some .int), Cond.fieldLink RX3 67 "HiddenWorks$Recipe" "weights" "[I", Cond.methodLink RX3 63 yX4_allWays, Cond.instanceMethod yX4_allWays, Cond.selects RX4 yX4_allWays yX4_allWays, Cond.initialized RX4, Cond.code yX4_allWays cX4_allWays 3 (some .int), Cond.fieldLink RX4 15 "HiddenWorks$Recipe" "wide" "I", Cond.methodLink RX4 23 yX4_share, Cond.instanceMethod yX4_share, Cond.selects RX4 yX4_share yX4_share, Cond.code yX4_share cX4_share 2 (some .int), Cond.fieldLink RX4 9 "HiddenWorks$Recipe" "weights" "[I", Cond.methodLink RX4 19 yX4_ways, Cond.instanceMethod yX4_ways]
def wsX8_heap_r4 : List Cond := [Cond.selects RX4 yX4_ways yX4_ways, Cond.code yX4_ways cX4_ways 2 (some .int), Cond.methodLink RX3 71 yX4_share, Cond.methodLink RX3 74 yX3_trueByWay, Cond.static yX3_trueByWay, Cond.code yX3_trueByWay cX3_trueByWay 5 (some .int), Cond.methodLink RX3 51 yX7_addClause, Cond.instanceMethod yX7_addClause, Cond.selects RX7 yX7_addClause yX7_addClause, Cond.code yX7_addClause cX7_addClause 3 none, Cond.fieldLink RX7 9 "HiddenWorks$Task" "plain" "[I", Cond.fieldLink RX7 15 "HiddenWorks$Task" "against" "[I", Cond.methodLink RX8 185 yX7_countAnswers, Cond.instanceMethod yX7_countAnswers, Cond.selects RX7 yX7_countAnswers yX7_countAnswers, Cond.code yX7_countAnswers cX7_countAnswers 5 (some .int), Cond.methodLink RX7 62 yX7_rows, Cond.instanceMethod yX7_rows, Cond.selects RX7 yX7_rows yX7_rows, Cond.code yX7_rows cX7_rows 1 (some .int), Cond.methodLink RX7 66 yX7_isSolvedBy, Cond.instanceMethod yX7_isSolvedBy, Cond.selects RX7 yX7_isSolvedBy yX7_isSolvedBy, Cond.code yX7_isSolvedBy cX7_isSolvedBy 2 (some .boolean)]
def wsX8_heap_r5 : List Cond := [Cond.methodLink RX7 59 yX7_brokenFrom, Cond.instanceMethod yX7_brokenFrom, Cond.selects RX7 yX7_brokenFrom yX7_brokenFrom, Cond.code yX7_brokenFrom cX7_brokenFrom 4 (some .int), Cond.methodLink RX7 56 yX7_holds, Cond.instanceMethod yX7_holds, Cond.selects RX7 yX7_holds yX7_holds, Cond.code yX7_holds cX7_holds 3 (some .boolean), Cond.methodLink RX7 43 yX7_trueOnes, Cond.instanceMethod yX7_trueOnes, Cond.selects RX7 yX7_trueOnes yX7_trueOnes, Cond.code yX7_trueOnes cX7_trueOnes 3 (some .int), Cond.methodLink RX7 37 yJ6_bitCount_0f7a4, Cond.static yJ6_bitCount_0f7a4, Cond.initialized RJ6, Cond.code yJ6_bitCount_0f7a4 cJ6_bitCount_0f7a4 1 (some .int), Cond.constant RJ6 265 (1431655765), Cond.constant RJ6 266 (858993459), Cond.constant RJ6 267 (252645135), Cond.methodLink RX7 47 yX7_width, Cond.instanceMethod yX7_width, Cond.selects RX7 yX7_width yX7_width, Cond.code yX7_width cX7_width 2 (some .int), Cond.methodLink RX7 50 yX2_holds]
def wsX8_heap_r6 : List Cond := [Cond.static yX2_holds, Cond.initialized RX2, Cond.code yX2_holds cX2_holds 3 (some .boolean), Cond.methodLink RX8 233 yX1_seek, Cond.instanceMethod yX1_seek, Cond.selects RX1 yX1_seek yX1_seek, Cond.initialized RX1, Cond.code yX1_seek cX1_seek 4 none, Cond.fieldLink RX1 7 "HiddenWorks$Finder" "found" "I", Cond.fieldLink RX1 13 "HiddenWorks$Finder" "steps" "I", Cond.methodLink RX1 22 Lib.Math.min.name, Cond.static Lib.Math.min.name, Cond.initialized "java/lang/Math", Cond.code Lib.Math.min.name Lib.Math.min.code 2 (some .int), Cond.methodLink RX1 16 yX7_countsRow, Cond.instanceMethod yX7_countsRow, Cond.selects RX7 yX7_countsRow yX7_countsRow, Cond.code yX7_countsRow cX7_countsRow 3 (some .int), Cond.methodLink RX7 76 yX7_excess, Cond.instanceMethod yX7_excess, Cond.selects RX7 yX7_excess yX7_excess, Cond.code yX7_excess cX7_excess 4 (some .int), Cond.methodLink RX1 28 yX1_climb, Cond.instanceMethod yX1_climb]
def wsX8_heap_r7 : List Cond := [Cond.selects RX1 yX1_climb yX1_climb, Cond.code yX1_climb cX1_climb 6 none, Cond.methodLink RX1 39 yX7_isSolvedBy, Cond.methodLink RX1 43 yX1_rowAfter, Cond.instanceMethod yX1_rowAfter, Cond.selects RX1 yX1_rowAfter yX1_rowAfter, Cond.code yX1_rowAfter cX1_rowAfter 7 (some .int), Cond.fieldLink RX1 50 "HiddenWorks$Task" "letters" "I", Cond.methodLink RX1 47 yX7_rows, Cond.methodLink RX1 53 yX7_gainByTurning, Cond.instanceMethod yX7_gainByTurning, Cond.selects RX7 yX7_gainByTurning yX7_gainByTurning, Cond.code yX7_gainByTurning cX7_gainByTurning 7 (some .int), Cond.methodLink RX7 79 yX2_worth, Cond.static yX2_worth, Cond.code yX2_worth cX2_worth 4 (some .int), Cond.methodLink RX2 9 yX2_holds, Cond.methodLink RX1 32 yX1_search, Cond.instanceMethod yX1_search, Cond.selects RX1 yX1_search yX1_search, Cond.code yX1_search cX1_search 6 none, Cond.methodLink RX1 56 yX7_holdsSoFar, Cond.instanceMethod yX7_holdsSoFar, Cond.selects RX7 yX7_holdsSoFar yX7_holdsSoFar]
def wsX8_heap_r8 : List Cond := [Cond.code yX7_holdsSoFar cX7_holdsSoFar 5 (some .boolean), Cond.methodLink RX8 243 yX1_foundHidden, Cond.instanceMethod yX1_foundHidden, Cond.selects RX1 yX1_foundHidden yX1_foundHidden, Cond.code yX1_foundHidden cX1_foundHidden 2 (some .boolean), Cond.fieldLink RX1 36 "HiddenWorks$Task" "hidden" "I"]
def wsX8_heap : List Cond := .code yX8_heap cX8_heap 11 (some .int) :: ((wsX8_heap_r1 ++ (wsX8_heap_r2 ++ (wsX8_heap_r3 ++ (wsX8_heap_r4 ++ (wsX8_heap_r5 ++ (wsX8_heap_r6 ++ (wsX8_heap_r7 ++ wsX8_heap_r8))))))) ++ wsX80 ++ wsX10 ++ wsX30 ++ wsX40 ++ wsX70)
def wsX8_rightBy : List Cond := .code yX8_rightBy cX8_rightBy 5 (some .int) :: ([.fieldLink RX8 37 "HiddenWorks" "firstSigns" "[I", .fieldLink RX8 41 "HiddenWorks" "secondSigns" "[I"] ++ wsX80)
def wsX8_apart_r1 : List Cond := [Cond.fieldLink RX8 19 "HiddenWorks" "maker" "LHiddenWorks$Maker;", Cond.fieldLink RX8 33 "HiddenWorks" "heaped" "LHiddenWorks$Task;", Cond.fieldLink RX8 37 "HiddenWorks" "firstSigns" "[I", Cond.fieldLink RX8 41 "HiddenWorks" "secondSigns" "[I", Cond.methodLink RX8 90 yX8_recipeAt, Cond.instanceMethod yX8_recipeAt, Cond.selects RX8 yX8_recipeAt yX8_recipeAt, Cond.initialized RX8, Cond.code yX8_recipeAt cX8_recipeAt 2 (some (.object "HiddenWorks$Recipe")), Cond.fieldLink RX8 83 "HiddenWorks" "recipeCount" "I", Cond.fieldLink RX8 49 "HiddenWorks" "recipes" "[LHiddenWorks$Recipe;", Cond.methodLink RX8 247 yX8_isHeap, Cond.static yX8_isHeap, Cond.code yX8_isHeap cX8_isHeap 2 (some .boolean), Cond.constant RX8 109 (100000), Cond.methodLink RX8 113 yX3_fill, Cond.instanceMethod yX3_fill, Cond.selects RX3 yX3_fill yX3_fill, Cond.initialized RX3, Cond.code yX3_fill cX3_fill 8 none, Cond.fieldLink RX3 9 "HiddenWorks$Maker" "lot" "J", Cond.fieldLink RX3 15 "HiddenWorks$Recipe" "kind" "I", Cond.fieldLink RX3 21 "HiddenWorks$Recipe" "letters" "I", Cond.fieldLink RX3 34 "HiddenWorks$Task" "hidden" "I"]
def wsX8_apart_r2 : List Cond := [Cond.fieldLink RX3 37 "HiddenWorks$Recipe" "clauses" "I", Cond.fieldLink RX3 40 "HiddenWorks$Recipe" "wide" "I", Cond.methodLink RX3 24 yX7_begin, Cond.instanceMethod yX7_begin, Cond.selects RX7 yX7_begin yX7_begin, Cond.initialized RX7, Cond.code yX7_begin cX7_begin 3 none, Cond.fieldLink RX7 18 "HiddenWorks$Task" "kind" "I", Cond.fieldLink RX7 22 "HiddenWorks$Task" "letters" "I", Cond.fieldLink RX7 25 "HiddenWorks$Task" "clauses" "I", Cond.fieldLink RX7 28 "HiddenWorks$Task" "hidden" "I", Cond.fieldLink RX7 31 "HiddenWorks$Task" "recipe" "I", Cond.fieldLink RX7 34 "HiddenWorks$Task" "seed" "I", Cond.methodLink RX3 30 yX3_draw, Cond.instanceMethod yX3_draw, Cond.selects RX3 yX3_draw yX3_draw, Cond.code yX3_draw cX3_draw 2 (some .int), Cond.constantLong RX3 54 (48271), Cond.constantLong RX3 56 (2147483647), Cond.constantLong RX3 58 (16), Cond.methodLink RX3 43 yX3_drawLetters, Cond.instanceMethod yX3_drawLetters, Cond.selects RX3 yX3_drawLetters yX3_drawLetters, Cond.code yX3_drawLetters cX3_drawLetters 7 (some .int)]
def wsX8_apart_r3 : List Cond := [Cond.methodLink RX3 60 yX3_bitAt, Cond.static yX3_bitAt, Cond.code yX3_bitAt cX3_bitAt 4 (some .int), Cond.methodLink RX3 47 yX3_drawTrue, Cond.instanceMethod yX3_drawTrue, Cond.selects RX3 yX3_drawTrue yX3_drawTrue, Cond.code yX3_drawTrue cX3_drawTrue 7 (some .int), Cond.fieldLink RX3 67 "HiddenWorks$Recipe" "weights" "[I", Cond.methodLink RX3 63 yX4_allWays, Cond.instanceMethod yX4_allWays, Cond.selects RX4 yX4_allWays yX4_allWays, Cond.initialized RX4, Cond.code yX4_allWays cX4_allWays 3 (some .int), Cond.fieldLink RX4 15 "HiddenWorks$Recipe" "wide" "I", Cond.methodLink RX4 23 yX4_share, Cond.instanceMethod yX4_share, Cond.selects RX4 yX4_share yX4_share, Cond.code yX4_share cX4_share 2 (some .int), Cond.fieldLink RX4 9 "HiddenWorks$Recipe" "weights" "[I", Cond.methodLink RX4 19 yX4_ways, Cond.instanceMethod yX4_ways, Cond.selects RX4 yX4_ways yX4_ways, Cond.code yX4_ways cX4_ways 2 (some .int), Cond.methodLink RX3 71 yX4_share]
def wsX8_apart_r4 : List Cond := [Cond.methodLink RX3 74 yX3_trueByWay, Cond.static yX3_trueByWay, Cond.code yX3_trueByWay cX3_trueByWay 5 (some .int), Cond.methodLink RX3 51 yX7_addClause, Cond.instanceMethod yX7_addClause, Cond.selects RX7 yX7_addClause yX7_addClause, Cond.code yX7_addClause cX7_addClause 3 none, Cond.fieldLink RX7 9 "HiddenWorks$Task" "plain" "[I", Cond.fieldLink RX7 15 "HiddenWorks$Task" "against" "[I", Cond.methodLink RX8 250 yX7_sign, Cond.instanceMethod yX7_sign, Cond.selects RX7 yX7_sign yX7_sign, Cond.code yX7_sign cX7_sign 4 (some .int), Cond.methodLink RX7 76 yX7_excess, Cond.instanceMethod yX7_excess, Cond.selects RX7 yX7_excess yX7_excess, Cond.code yX7_excess cX7_excess 4 (some .int), Cond.methodLink RX8 253 yX8_rightBy, Cond.instanceMethod yX8_rightBy, Cond.selects RX8 yX8_rightBy yX8_rightBy, Cond.code yX8_rightBy cX8_rightBy 5 (some .int)]
def wsX8_apart : List Cond := .code yX8_apart cX8_apart 13 (some .int) :: ((wsX8_apart_r1 ++ (wsX8_apart_r2 ++ (wsX8_apart_r3 ++ wsX8_apart_r4))) ++ wsX80 ++ wsX30 ++ wsX40 ++ wsX70)
def wsX8_twin_r1 : List Cond := [Cond.fieldLink RX8 67 "HiddenWorks" "sheets" "[LHiddenWorks$Sheet;", Cond.fieldLink RX8 170 "HiddenWorks$Task" "letters" "I", Cond.fieldLink RX8 110 "HiddenWorks" "taskCount" "I", Cond.fieldLink RX8 54 "HiddenWorks" "tasks" "[LHiddenWorks$Task;", Cond.fieldLink RX8 169 "HiddenWorks$Task" "kind" "I", Cond.fieldLink RX8 171 "HiddenWorks$Task" "clauses" "I", Cond.fieldLink RX8 175 "HiddenWorks$Task" "plain" "[I", Cond.fieldLink RX8 178 "HiddenWorks$Task" "against" "[I", Cond.fieldLink RX8 172 "HiddenWorks$Task" "hidden" "I", Cond.methodLink RX8 165 yX8_taskAt, Cond.instanceMethod yX8_taskAt, Cond.selects RX8 yX8_taskAt yX8_taskAt, Cond.initialized RX8, Cond.code yX8_taskAt cX8_taskAt 2 (some (.object "HiddenWorks$Task")), Cond.methodLink RX8 127 yX8_isSheet, Cond.static yX8_isSheet, Cond.code yX8_isSheet cX8_isSheet 1 (some .boolean), Cond.methodLink RX8 136 yX5_isMissing, Cond.instanceMethod yX5_isMissing, Cond.selects RX5 yX5_isMissing yX5_isMissing, Cond.initialized RX5, Cond.code yX5_isMissing cX5_isMissing 1 (some .boolean), Cond.fieldLink RX5 9 "HiddenWorks$Sheet" "sort" "I", Cond.methodLink RX8 161 yX8_isRow]
def wsX8_twin_r2 : List Cond := [Cond.static yX8_isRow, Cond.code yX8_isRow cX8_isRow 2 (some .boolean), Cond.methodLink RX8 256 yX5_isOrderOf, Cond.instanceMethod yX5_isOrderOf, Cond.selects RX5 yX5_isOrderOf yX5_isOrderOf, Cond.code yX5_isOrderOf cX5_isOrderOf 4 (some .boolean), Cond.fieldLink RX5 19 "HiddenWorks$Sheet" "size" "I", Cond.fieldLink RX5 15 "HiddenWorks$Sheet" "cells" "[I", Cond.methodLink RX8 144 yX7_begin, Cond.instanceMethod yX7_begin, Cond.selects RX7 yX7_begin yX7_begin, Cond.initialized RX7, Cond.code yX7_begin cX7_begin 3 none, Cond.fieldLink RX7 18 "HiddenWorks$Task" "kind" "I", Cond.fieldLink RX7 22 "HiddenWorks$Task" "letters" "I", Cond.fieldLink RX7 25 "HiddenWorks$Task" "clauses" "I", Cond.fieldLink RX7 28 "HiddenWorks$Task" "hidden" "I", Cond.fieldLink RX7 31 "HiddenWorks$Task" "recipe" "I", Cond.fieldLink RX7 34 "HiddenWorks$Task" "seed" "I", Cond.methodLink RX8 259 yX5_renumbered, Cond.instanceMethod yX5_renumbered, Cond.selects RX5 yX5_renumbered yX5_renumbered, Cond.code yX5_renumbered cX5_renumbered 4 (some .int), Cond.methodLink RX8 152 yX7_addClause]
def wsX8_twin_r3 : List Cond := [Cond.instanceMethod yX7_addClause, Cond.selects RX7 yX7_addClause yX7_addClause, Cond.code yX7_addClause cX7_addClause 3 none, Cond.fieldLink RX7 9 "HiddenWorks$Task" "plain" "[I", Cond.fieldLink RX7 15 "HiddenWorks$Task" "against" "[I", Cond.methodLink RX8 123 yX8_keepTask, Cond.instanceMethod yX8_keepTask, Cond.selects RX8 yX8_keepTask yX8_keepTask, Cond.code yX8_keepTask cX8_keepTask 1 (some .int)]
def wsX8_twin : List Cond := .code yX8_twin cX8_twin 10 (some .int) :: ((wsX8_twin_r1 ++ (wsX8_twin_r2 ++ wsX8_twin_r3)) ++ wsX80 ++ wsX70 ++ wsX50)
def wsX8_claim : List Cond := .code yX8_claim cX8_claim 3 (some .int) :: ([.fieldLink RX8 262 "HiddenWorks" "claimCount" "I", .fieldLink RX8 60 "HiddenWorks" "claims" "[LHiddenWorks$Claim;", .methodLink RX8 165 yX8_taskAt, .instanceMethod yX8_taskAt, .selects RX8 yX8_taskAt yX8_taskAt, .initialized RX8, .code yX8_taskAt cX8_taskAt 2 (some (.object "HiddenWorks$Task")), .fieldLink RX8 110 "HiddenWorks" "taskCount" "I", .fieldLink RX8 54 "HiddenWorks" "tasks" "[LHiddenWorks$Task;", .methodLink RX8 265 yX0_begin, .instanceMethod yX0_begin, .selects RX0 yX0_begin yX0_begin, .initialized RX0, .code yX0_begin cX0_begin 3 none, .fieldLink RX0 9 "HiddenWorks$Claim" "task" "I", .fieldLink RX0 15 "HiddenWorks$Claim" "steps" "I", .fieldLink RX0 18 "HiddenWorks$Claim" "state" "I", .fieldLink RX0 21 "HiddenWorks$Claim" "finder" "I"] ++ wsX80 ++ wsX00)
def wsX8_claimAt : List Cond := .code yX8_claimAt cX8_claimAt 2 (some (.object "HiddenWorks$Claim")) :: ([.fieldLink RX8 262 "HiddenWorks" "claimCount" "I", .fieldLink RX8 60 "HiddenWorks" "claims" "[LHiddenWorks$Claim;"] ++ wsX80)
def wsX8_tries_r1 : List Cond := [Cond.fieldLink RX8 270 "HiddenWorks$Claim" "state" "I", Cond.fieldLink RX8 273 "HiddenWorks$Claim" "task" "I", Cond.fieldLink RX8 26 "HiddenWorks" "finder" "LHiddenWorks$Finder;", Cond.fieldLink RX8 276 "HiddenWorks$Claim" "steps" "I", Cond.fieldLink RX8 237 "HiddenWorks$Finder" "found" "I", Cond.fieldLink RX8 240 "HiddenWorks$Finder" "steps" "I", Cond.methodLink RX8 266 yX8_claimAt, Cond.instanceMethod yX8_claimAt, Cond.selects RX8 yX8_claimAt yX8_claimAt, Cond.initialized RX8, Cond.code yX8_claimAt cX8_claimAt 2 (some (.object "HiddenWorks$Claim")), Cond.fieldLink RX8 262 "HiddenWorks" "claimCount" "I", Cond.fieldLink RX8 60 "HiddenWorks" "claims" "[LHiddenWorks$Claim;", Cond.methodLink RX8 230 yX8_isFinder, Cond.static yX8_isFinder, Cond.code yX8_isFinder cX8_isFinder 1 (some .boolean), Cond.methodLink RX8 165 yX8_taskAt, Cond.instanceMethod yX8_taskAt, Cond.selects RX8 yX8_taskAt yX8_taskAt, Cond.code yX8_taskAt cX8_taskAt 2 (some (.object "HiddenWorks$Task")), Cond.fieldLink RX8 110 "HiddenWorks" "taskCount" "I", Cond.fieldLink RX8 54 "HiddenWorks" "tasks" "[LHiddenWorks$Task;", Cond.methodLink RX8 233 yX1_seek, Cond.instanceMethod yX1_seek]
def wsX8_tries_r2 : List Cond := [Cond.selects RX1 yX1_seek yX1_seek, Cond.initialized RX1, Cond.code yX1_seek cX1_seek 4 none, Cond.fieldLink RX1 7 "HiddenWorks$Finder" "found" "I", Cond.fieldLink RX1 13 "HiddenWorks$Finder" "steps" "I", Cond.methodLink RX1 22 Lib.Math.min.name, Cond.static Lib.Math.min.name, Cond.initialized "java/lang/Math", Cond.code Lib.Math.min.name Lib.Math.min.code 2 (some .int), Cond.methodLink RX1 16 yX7_countsRow, Cond.instanceMethod yX7_countsRow, Cond.selects RX7 yX7_countsRow yX7_countsRow, Cond.initialized RX7, Cond.code yX7_countsRow cX7_countsRow 3 (some .int), Cond.fieldLink RX7 22 "HiddenWorks$Task" "letters" "I", Cond.methodLink RX7 76 yX7_excess, Cond.instanceMethod yX7_excess, Cond.selects RX7 yX7_excess yX7_excess, Cond.code yX7_excess cX7_excess 4 (some .int), Cond.fieldLink RX7 25 "HiddenWorks$Task" "clauses" "I", Cond.fieldLink RX7 9 "HiddenWorks$Task" "plain" "[I", Cond.fieldLink RX7 15 "HiddenWorks$Task" "against" "[I", Cond.methodLink RX1 28 yX1_climb, Cond.instanceMethod yX1_climb]
def wsX8_tries_r3 : List Cond := [Cond.selects RX1 yX1_climb yX1_climb, Cond.code yX1_climb cX1_climb 6 none, Cond.methodLink RX1 39 yX7_isSolvedBy, Cond.instanceMethod yX7_isSolvedBy, Cond.selects RX7 yX7_isSolvedBy yX7_isSolvedBy, Cond.code yX7_isSolvedBy cX7_isSolvedBy 2 (some .boolean), Cond.methodLink RX7 59 yX7_brokenFrom, Cond.instanceMethod yX7_brokenFrom, Cond.selects RX7 yX7_brokenFrom yX7_brokenFrom, Cond.code yX7_brokenFrom cX7_brokenFrom 4 (some .int), Cond.methodLink RX7 56 yX7_holds, Cond.instanceMethod yX7_holds, Cond.selects RX7 yX7_holds yX7_holds, Cond.code yX7_holds cX7_holds 3 (some .boolean), Cond.fieldLink RX7 18 "HiddenWorks$Task" "kind" "I", Cond.methodLink RX7 43 yX7_trueOnes, Cond.instanceMethod yX7_trueOnes, Cond.selects RX7 yX7_trueOnes yX7_trueOnes, Cond.code yX7_trueOnes cX7_trueOnes 3 (some .int), Cond.methodLink RX7 37 yJ6_bitCount_0f7a4, Cond.static yJ6_bitCount_0f7a4, Cond.initialized RJ6, Cond.code yJ6_bitCount_0f7a4 cJ6_bitCount_0f7a4 1 (some .int), Cond.constant RJ6 265 (1431655765)]
def wsX8_tries_r4 : List Cond := [Cond.constant RJ6 266 (858993459), Cond.constant RJ6 267 (252645135), Cond.methodLink RX7 47 yX7_width, Cond.instanceMethod yX7_width, Cond.selects RX7 yX7_width yX7_width, Cond.code yX7_width cX7_width 2 (some .int), Cond.methodLink RX7 50 yX2_holds, Cond.static yX2_holds, Cond.initialized RX2, Cond.code yX2_holds cX2_holds 3 (some .boolean), Cond.methodLink RX1 43 yX1_rowAfter, Cond.instanceMethod yX1_rowAfter, Cond.selects RX1 yX1_rowAfter yX1_rowAfter, Cond.code yX1_rowAfter cX1_rowAfter 7 (some .int), Cond.fieldLink RX1 50 "HiddenWorks$Task" "letters" "I", Cond.methodLink RX1 47 yX7_rows, Cond.instanceMethod yX7_rows, Cond.selects RX7 yX7_rows yX7_rows, Cond.code yX7_rows cX7_rows 1 (some .int), Cond.methodLink RX1 53 yX7_gainByTurning, Cond.instanceMethod yX7_gainByTurning, Cond.selects RX7 yX7_gainByTurning yX7_gainByTurning, Cond.code yX7_gainByTurning cX7_gainByTurning 7 (some .int), Cond.methodLink RX7 79 yX2_worth]
def wsX8_tries_r5 : List Cond := [Cond.static yX2_worth, Cond.code yX2_worth cX2_worth 4 (some .int), Cond.methodLink RX2 9 yX2_holds, Cond.methodLink RX1 32 yX1_search, Cond.instanceMethod yX1_search, Cond.selects RX1 yX1_search yX1_search, Cond.code yX1_search cX1_search 6 none, Cond.methodLink RX1 56 yX7_holdsSoFar, Cond.instanceMethod yX7_holdsSoFar, Cond.selects RX7 yX7_holdsSoFar yX7_holdsSoFar, Cond.code yX7_holdsSoFar cX7_holdsSoFar 5 (some .boolean), Cond.methodLink RX8 277 yX0_worsen, Cond.instanceMethod yX0_worsen, Cond.selects RX0 yX0_worsen yX0_worsen, Cond.initialized RX0, Cond.code yX0_worsen cX0_worsen 3 none, Cond.fieldLink RX0 18 "HiddenWorks$Claim" "state" "I", Cond.fieldLink RX0 21 "HiddenWorks$Claim" "finder" "I"]
def wsX8_tries : List Cond := .code yX8_tries cX8_tries 5 (some .int) :: ((wsX8_tries_r1 ++ (wsX8_tries_r2 ++ (wsX8_tries_r3 ++ (wsX8_tries_r4 ++ wsX8_tries_r5)))) ++ wsX00 ++ wsX80 ++ wsX10 ++ wsX70)
def wsX8_claimTold : List Cond := .code yX8_claimTold cX8_claimTold 4 (some .int) :: ([.fieldLink RX8 273 "HiddenWorks$Claim" "task" "I", .fieldLink RX8 276 "HiddenWorks$Claim" "steps" "I", .fieldLink RX8 270 "HiddenWorks$Claim" "state" "I", .fieldLink RX8 280 "HiddenWorks$Claim" "finder" "I", .methodLink RX8 266 yX8_claimAt, .instanceMethod yX8_claimAt, .selects RX8 yX8_claimAt yX8_claimAt, .initialized RX8, .code yX8_claimAt cX8_claimAt 2 (some (.object "HiddenWorks$Claim")), .fieldLink RX8 262 "HiddenWorks" "claimCount" "I", .fieldLink RX8 60 "HiddenWorks" "claims" "[LHiddenWorks$Claim;"] ++ wsX00 ++ wsX80)
def wsX8_kindTold : List Cond := .code yX8_kindTold cX8_kindTold 6 (some .int) :: ([.methodLink RX8 131 yX2_exists, .static yX2_exists, .initialized RX2, .code yX2_exists cX2_exists 1 (some .boolean), .methodLink RX8 282 yX2_worth, .static yX2_worth, .code yX2_worth cX2_worth 4 (some .int), .methodLink RX2 9 yX2_holds, .static yX2_holds, .code yX2_holds cX2_holds 3 (some .boolean), .methodLink RX8 286 yX2_holds])
def wsX8_count : List Cond := .code yX8_count cX8_count 2 (some .int) :: ([.fieldLink RX8 110 "HiddenWorks" "taskCount" "I", .fieldLink RX8 83 "HiddenWorks" "recipeCount" "I", .fieldLink RX8 262 "HiddenWorks" "claimCount" "I", .fieldLink RX8 10 "HiddenWorks" "tape" "LHiddenWorks$Tape;", .fieldLink RX8 76 "HiddenWorks$Tape" "size" "I"] ++ wsX80 ++ wsX60)
def wsX8_image : List Cond := .code yX8_image cX8_image 1 (some .int) :: ([.fieldLink RX8 110 "HiddenWorks" "taskCount" "I", .fieldLink RX8 72 "HiddenWorks" "tasksInImage" "I"] ++ wsX80)
def wsX8_back : List Cond := .code yX8_back cX8_back 3 (some .int) :: ([.fieldLink RX8 72 "HiddenWorks" "tasksInImage" "I", .fieldLink RX8 110 "HiddenWorks" "taskCount" "I", .methodLink RX8 290 Lib.Math.min.name, .static Lib.Math.min.name, .initialized "java/lang/Math", .code Lib.Math.min.name Lib.Math.min.code 2 (some .int), .fieldLink RX8 262 "HiddenWorks" "claimCount" "I", .fieldLink RX8 60 "HiddenWorks" "claims" "[LHiddenWorks$Claim;", .fieldLink RX8 273 "HiddenWorks$Claim" "task" "I", .methodLink RX8 293 yX0_become, .instanceMethod yX0_become, .selects RX0 yX0_become yX0_become, .initialized RX0, .code yX0_become cX0_become 2 none, .fieldLink RX0 9 "HiddenWorks$Claim" "task" "I", .fieldLink RX0 15 "HiddenWorks$Claim" "steps" "I", .fieldLink RX0 18 "HiddenWorks$Claim" "state" "I", .fieldLink RX0 21 "HiddenWorks$Claim" "finder" "I"] ++ wsX80 ++ wsX00)
def wsX8_sheet : List Cond := .code yX8_sheet cX8_sheet 4 (some .int) :: ([.fieldLink RX8 67 "HiddenWorks" "sheets" "[LHiddenWorks$Sheet;", .methodLink RX8 127 yX8_isSheet, .static yX8_isSheet, .initialized RX8, .code yX8_isSheet cX8_isSheet 1 (some .boolean), .methodLink RX8 297 yX5_begin, .instanceMethod yX5_begin, .selects RX5 yX5_begin yX5_begin, .initialized RX5, .code yX5_begin cX5_begin 3 none, .fieldLink RX5 9 "HiddenWorks$Sheet" "sort" "I", .fieldLink RX5 19 "HiddenWorks$Sheet" "size" "I", .fieldLink RX5 15 "HiddenWorks$Sheet" "cells" "[I", .methodLink RX5 22 yJ7_fill_53178, .static yJ7_fill_53178, .initialized RJ7, .code yJ7_fill_53178 cJ7_fill_53178 4 none] ++ wsX80 ++ wsX50)
def wsX8_cell : List Cond := .code yX8_cell cX8_cell 5 (some .int) :: ([.fieldLink RX8 67 "HiddenWorks" "sheets" "[LHiddenWorks$Sheet;", .fieldLink RX8 148 "HiddenWorks$Sheet" "size" "I", .fieldLink RX8 149 "HiddenWorks$Sheet" "cells" "[I", .methodLink RX8 127 yX8_isSheet, .static yX8_isSheet, .initialized RX8, .code yX8_isSheet cX8_isSheet 1 (some .boolean), .methodLink RX8 136 yX5_isMissing, .instanceMethod yX5_isMissing, .selects RX5 yX5_isMissing yX5_isMissing, .initialized RX5, .code yX5_isMissing cX5_isMissing 1 (some .boolean), .fieldLink RX5 9 "HiddenWorks$Sheet" "sort" "I", .methodLink RX8 298 yX5_cut, .instanceMethod yX5_cut, .selects RX5 yX5_cut yX5_cut, .code yX5_cut cX5_cut 2 (some .int)] ++ wsX80 ++ wsX50)
def wsX8_copy : List Cond := .code yX8_copy cX8_copy 8 (some .int) :: ([.fieldLink RX8 67 "HiddenWorks" "sheets" "[LHiddenWorks$Sheet;", .fieldLink RX8 301 "HiddenWorks$Sheet" "sort" "I", .fieldLink RX8 149 "HiddenWorks$Sheet" "cells" "[I", .methodLink RX8 307 arraycopyName, .native arraycopyName, .static arraycopyName, .initialized "java/lang/System", .methodLink RX8 127 yX8_isSheet, .static yX8_isSheet, .initialized RX8, .code yX8_isSheet cX8_isSheet 1 (some .boolean), .methodLink RX8 136 yX5_isMissing, .instanceMethod yX5_isMissing, .selects RX5 yX5_isMissing yX5_isMissing, .initialized RX5, .code yX5_isMissing cX5_isMissing 1 (some .boolean), .fieldLink RX5 9 "HiddenWorks$Sheet" "sort" "I", .methodLink RX8 304 yX5_hasRange, .instanceMethod yX5_hasRange, .selects RX5 yX5_hasRange yX5_hasRange, .code yX5_hasRange cX5_hasRange 3 (some .boolean), .fieldLink RX5 19 "HiddenWorks$Sheet" "size" "I"] ++ wsX80 ++ wsX50)
def wsX8_claims_r1 : List Cond := [Cond.fieldLink RX8 67 "HiddenWorks" "sheets" "[LHiddenWorks$Sheet;", Cond.fieldLink RX8 301 "HiddenWorks$Sheet" "sort" "I", Cond.fieldLink RX8 149 "HiddenWorks$Sheet" "cells" "[I", Cond.methodLink RX8 127 yX8_isSheet, Cond.static yX8_isSheet, Cond.initialized RX8, Cond.code yX8_isSheet cX8_isSheet 1 (some .boolean), Cond.methodLink RX8 136 yX5_isMissing, Cond.instanceMethod yX5_isMissing, Cond.selects RX5 yX5_isMissing yX5_isMissing, Cond.initialized RX5, Cond.code yX5_isMissing cX5_isMissing 1 (some .boolean), Cond.fieldLink RX5 9 "HiddenWorks$Sheet" "sort" "I", Cond.methodLink RX8 304 yX5_hasRange, Cond.instanceMethod yX5_hasRange, Cond.selects RX5 yX5_hasRange yX5_hasRange, Cond.code yX5_hasRange cX5_hasRange 3 (some .boolean), Cond.fieldLink RX5 19 "HiddenWorks$Sheet" "size" "I", Cond.methodLink RX8 313 yX8_claim, Cond.instanceMethod yX8_claim, Cond.selects RX8 yX8_claim yX8_claim, Cond.code yX8_claim cX8_claim 3 (some .int), Cond.fieldLink RX8 262 "HiddenWorks" "claimCount" "I", Cond.fieldLink RX8 60 "HiddenWorks" "claims" "[LHiddenWorks$Claim;"]
def wsX8_claims_r2 : List Cond := [Cond.methodLink RX8 165 yX8_taskAt, Cond.instanceMethod yX8_taskAt, Cond.selects RX8 yX8_taskAt yX8_taskAt, Cond.code yX8_taskAt cX8_taskAt 2 (some (.object "HiddenWorks$Task")), Cond.fieldLink RX8 110 "HiddenWorks" "taskCount" "I", Cond.fieldLink RX8 54 "HiddenWorks" "tasks" "[LHiddenWorks$Task;", Cond.methodLink RX8 265 yX0_begin, Cond.instanceMethod yX0_begin, Cond.selects RX0 yX0_begin yX0_begin, Cond.initialized RX0, Cond.code yX0_begin cX0_begin 3 none, Cond.fieldLink RX0 9 "HiddenWorks$Claim" "task" "I", Cond.fieldLink RX0 15 "HiddenWorks$Claim" "steps" "I", Cond.fieldLink RX0 18 "HiddenWorks$Claim" "state" "I", Cond.fieldLink RX0 21 "HiddenWorks$Claim" "finder" "I"]
def wsX8_claims : List Cond := .code yX8_claims cX8_claims 9 (some .int) :: ((wsX8_claims_r1 ++ wsX8_claims_r2) ++ wsX80 ++ wsX50 ++ wsX00)
def wsX8_taskTaken : List Cond := .code yX8_taskTaken cX8_taskTaken 2 (some .int) :: ([.fieldLink RX8 169 "HiddenWorks$Task" "kind" "I", .methodLink RX8 320 yX2_isOne, .static yX2_isOne, .initialized RX2, .code yX2_isOne cX2_isOne 4 (some .boolean), .fieldLink RX2 13 "HiddenWorks$Kind" "ABOVE" "[I"] ++ wsX70)
def wsX8_taken_r1 : List Cond := [Cond.fieldLink RX8 103 "HiddenWorks$Recipe" "wide" "I", Cond.fieldLink RX8 276 "HiddenWorks$Claim" "steps" "I", Cond.methodLink RX8 165 yX8_taskAt, Cond.instanceMethod yX8_taskAt, Cond.selects RX8 yX8_taskAt yX8_taskAt, Cond.initialized RX8, Cond.code yX8_taskAt cX8_taskAt 2 (some (.object "HiddenWorks$Task")), Cond.fieldLink RX8 110 "HiddenWorks" "taskCount" "I", Cond.fieldLink RX8 54 "HiddenWorks" "tasks" "[LHiddenWorks$Task;", Cond.methodLink RX8 316 yX8_taskTaken, Cond.static yX8_taskTaken, Cond.code yX8_taskTaken cX8_taskTaken 2 (some .int), Cond.fieldLink RX8 169 "HiddenWorks$Task" "kind" "I", Cond.methodLink RX8 320 yX2_isOne, Cond.static yX2_isOne, Cond.initialized RX2, Cond.code yX2_isOne cX2_isOne 4 (some .boolean), Cond.fieldLink RX2 13 "HiddenWorks$Kind" "ABOVE" "[I", Cond.methodLink RX8 90 yX8_recipeAt, Cond.instanceMethod yX8_recipeAt, Cond.selects RX8 yX8_recipeAt yX8_recipeAt, Cond.code yX8_recipeAt cX8_recipeAt 2 (some (.object "HiddenWorks$Recipe")), Cond.fieldLink RX8 83 "HiddenWorks" "recipeCount" "I", Cond.fieldLink RX8 49 "HiddenWorks" "recipes" "[LHiddenWorks$Recipe;"]
def wsX8_taken_r2 : List Cond := [Cond.methodLink RX8 266 yX8_claimAt, Cond.instanceMethod yX8_claimAt, Cond.selects RX8 yX8_claimAt yX8_claimAt, Cond.code yX8_claimAt cX8_claimAt 2 (some (.object "HiddenWorks$Claim")), Cond.fieldLink RX8 262 "HiddenWorks" "claimCount" "I", Cond.fieldLink RX8 60 "HiddenWorks" "claims" "[LHiddenWorks$Claim;"]
def wsX8_taken : List Cond := .code yX8_taken cX8_taken 5 (some .int) :: ((wsX8_taken_r1 ++ wsX8_taken_r2) ++ wsX40 ++ wsX00 ++ wsX80 ++ wsX70)
def wsX9_init_r1 : List Cond := [Cond.methodLink RX9 1 objectInit, Cond.instanceMethod objectInit, Cond.code objectInit ⟨#[0xb1]⟩ 1 none, Cond.arrayClass .int, Cond.fieldLink RX9 7 "HiddenWorksModel" "tape" "[I", Cond.fieldLink RX9 13 "HiddenWorksModel" "rKind" "[I", Cond.fieldLink RX9 16 "HiddenWorksModel" "rLetters" "[I", Cond.fieldLink RX9 19 "HiddenWorksModel" "rClauses" "[I", Cond.fieldLink RX9 22 "HiddenWorksModel" "rWide" "[I", Cond.fieldLink RX9 25 "HiddenWorksModel" "rWeight" "[I", Cond.fieldLink RX9 28 "HiddenWorksModel" "kind" "[I", Cond.fieldLink RX9 31 "HiddenWorksModel" "letters" "[I", Cond.fieldLink RX9 34 "HiddenWorksModel" "clauses" "[I", Cond.fieldLink RX9 37 "HiddenWorksModel" "hidden" "[I", Cond.fieldLink RX9 40 "HiddenWorksModel" "recipeOf" "[I", Cond.fieldLink RX9 43 "HiddenWorksModel" "seedOf" "[I", Cond.fieldLink RX9 46 "HiddenWorksModel" "plain" "[I", Cond.fieldLink RX9 49 "HiddenWorksModel" "against" "[I", Cond.fieldLink RX9 52 "HiddenWorksModel" "claimTask" "[I", Cond.fieldLink RX9 55 "HiddenWorksModel" "claimSteps" "[I", Cond.fieldLink RX9 58 "HiddenWorksModel" "claimState" "[I", Cond.fieldLink RX9 61 "HiddenWorksModel" "claimBy" "[I", Cond.fieldLink RX9 64 "HiddenWorksModel" "sheetSort" "[I", Cond.fieldLink RX9 67 "HiddenWorksModel" "sheetSize" "[I"]
def wsX9_init_r2 : List Cond := [Cond.fieldLink RX9 70 "HiddenWorksModel" "cells" "[I", Cond.fieldLink RX9 73 "HiddenWorksModel" "chosen" "[I", Cond.fieldLink RX9 76 "HiddenWorksModel" "signs" "[I"]
def wsX9_init : List Cond := .code yX9_init cX9_init 1 none :: ((wsX9_init_r1 ++ wsX9_init_r2) ++ wsX90)
def wsX9_in : List Cond := .code yX9_in cX9_in 3 (some .boolean) :: ([])
def wsX9_ones : List Cond := .code yX9_ones cX9_ones 3 (some .int) :: ([])
def wsX9_holds : List Cond := .code yX9_holds cX9_holds 3 (some .boolean) :: ([])
def wsX9_worth : List Cond := .code yX9_worth cX9_worth 4 (some .int) :: ([.methodLink RX9 79 yX9_holds, .static yX9_holds, .initialized RX9, .code yX9_holds cX9_holds 3 (some .boolean)])
def wsX9_kindTold : List Cond := .code yX9_kindTold cX9_kindTold 5 (some .int) :: ([.methodLink RX9 83 yX9_in, .static yX9_in, .initialized RX9, .code yX9_in cX9_in 3 (some .boolean), .methodLink RX9 86 yX9_worth, .static yX9_worth, .code yX9_worth cX9_worth 4 (some .int), .methodLink RX9 79 yX9_holds, .static yX9_holds, .code yX9_holds cX9_holds 3 (some .boolean)])
def wsX9_feed : List Cond := .code yX9_feed cX9_feed 5 (some .int) :: ([.fieldLink RX9 90 "HiddenWorksModel" "taped" "I", .fieldLink RX9 7 "HiddenWorksModel" "tape" "[I", .constantLong RX9 94 (255), .methodLink RX9 83 yX9_in, .static yX9_in, .initialized RX9, .code yX9_in cX9_in 3 (some .boolean)] ++ wsX90)
def wsX9_here : List Cond := .code yX9_here cX9_here 1 (some .int) :: ([.fieldLink RX9 96 "HiddenWorksModel" "at" "I", .fieldLink RX9 90 "HiddenWorksModel" "taped" "I", .fieldLink RX9 7 "HiddenWorksModel" "tape" "[I"] ++ wsX90)
def wsX9_number : List Cond := .code yX9_number cX9_number 6 (some .int) :: ([.fieldLink RX9 96 "HiddenWorksModel" "at" "I", .methodLink RX9 99 yX9_here, .instanceMethod yX9_here, .selects RX9 yX9_here yX9_here, .initialized RX9, .code yX9_here cX9_here 1 (some .int), .fieldLink RX9 90 "HiddenWorksModel" "taped" "I", .fieldLink RX9 7 "HiddenWorksModel" "tape" "[I", .methodLink RX9 83 yX9_in, .static yX9_in, .code yX9_in cX9_in 3 (some .boolean)] ++ wsX90)
def wsX9_blanks : List Cond := .code yX9_blanks cX9_blanks 1 (some .boolean) :: ([.fieldLink RX9 96 "HiddenWorksModel" "at" "I", .methodLink RX9 99 yX9_here, .instanceMethod yX9_here, .selects RX9 yX9_here yX9_here, .initialized RX9, .code yX9_here cX9_here 1 (some .int), .fieldLink RX9 90 "HiddenWorksModel" "taped" "I", .fieldLink RX9 7 "HiddenWorksModel" "tape" "[I"] ++ wsX90)
def wsX9_part : List Cond := .code yX9_part cX9_part 4 (some .int) :: ([.fieldLink RX9 96 "HiddenWorksModel" "at" "I", .methodLink RX9 99 yX9_here, .instanceMethod yX9_here, .selects RX9 yX9_here yX9_here, .initialized RX9, .code yX9_here cX9_here 1 (some .int), .fieldLink RX9 90 "HiddenWorksModel" "taped" "I", .fieldLink RX9 7 "HiddenWorksModel" "tape" "[I", .methodLink RX9 103 yX9_number, .instanceMethod yX9_number, .selects RX9 yX9_number yX9_number, .code yX9_number cX9_number 6 (some .int), .methodLink RX9 83 yX9_in, .static yX9_in, .code yX9_in cX9_in 3 (some .boolean)] ++ wsX90)
def wsX9_reads_r1 : List Cond := [Cond.fieldLink RX9 13 "HiddenWorksModel" "rKind" "[I", Cond.fieldLink RX9 16 "HiddenWorksModel" "rLetters" "[I", Cond.fieldLink RX9 19 "HiddenWorksModel" "rClauses" "[I", Cond.fieldLink RX9 22 "HiddenWorksModel" "rWide" "[I", Cond.fieldLink RX9 25 "HiddenWorksModel" "rWeight" "[I", Cond.fieldLink RX9 96 "HiddenWorksModel" "at" "I", Cond.fieldLink RX9 90 "HiddenWorksModel" "taped" "I", Cond.methodLink RX9 107 yX9_part, Cond.instanceMethod yX9_part, Cond.selects RX9 yX9_part yX9_part, Cond.initialized RX9, Cond.code yX9_part cX9_part 4 (some .int), Cond.methodLink RX9 99 yX9_here, Cond.instanceMethod yX9_here, Cond.selects RX9 yX9_here yX9_here, Cond.code yX9_here cX9_here 1 (some .int), Cond.fieldLink RX9 7 "HiddenWorksModel" "tape" "[I", Cond.methodLink RX9 103 yX9_number, Cond.instanceMethod yX9_number, Cond.selects RX9 yX9_number yX9_number, Cond.code yX9_number cX9_number 6 (some .int), Cond.methodLink RX9 83 yX9_in, Cond.static yX9_in, Cond.code yX9_in cX9_in 3 (some .boolean)]
def wsX9_reads_r2 : List Cond := [Cond.methodLink RX9 110 yX9_blanks, Cond.instanceMethod yX9_blanks, Cond.selects RX9 yX9_blanks yX9_blanks, Cond.code yX9_blanks cX9_blanks 1 (some .boolean), Cond.methodLink RX9 79 yX9_holds, Cond.static yX9_holds, Cond.code yX9_holds cX9_holds 3 (some .boolean)]
def wsX9_reads : List Cond := .code yX9_reads cX9_reads 5 (some .boolean) :: ((wsX9_reads_r1 ++ wsX9_reads_r2) ++ wsX90)
def wsX9_recipe_r1 : List Cond := [Cond.fieldLink RX9 114 "HiddenWorksModel" "recipes" "I", Cond.fieldLink RX9 96 "HiddenWorksModel" "at" "I", Cond.fieldLink RX9 90 "HiddenWorksModel" "taped" "I", Cond.methodLink RX9 117 yX9_reads, Cond.instanceMethod yX9_reads, Cond.selects RX9 yX9_reads yX9_reads, Cond.initialized RX9, Cond.code yX9_reads cX9_reads 5 (some .boolean), Cond.fieldLink RX9 13 "HiddenWorksModel" "rKind" "[I", Cond.fieldLink RX9 16 "HiddenWorksModel" "rLetters" "[I", Cond.fieldLink RX9 19 "HiddenWorksModel" "rClauses" "[I", Cond.fieldLink RX9 22 "HiddenWorksModel" "rWide" "[I", Cond.fieldLink RX9 25 "HiddenWorksModel" "rWeight" "[I", Cond.methodLink RX9 107 yX9_part, Cond.instanceMethod yX9_part, Cond.selects RX9 yX9_part yX9_part, Cond.code yX9_part cX9_part 4 (some .int), Cond.methodLink RX9 99 yX9_here, Cond.instanceMethod yX9_here, Cond.selects RX9 yX9_here yX9_here, Cond.code yX9_here cX9_here 1 (some .int), Cond.fieldLink RX9 7 "HiddenWorksModel" "tape" "[I", Cond.methodLink RX9 103 yX9_number, Cond.instanceMethod yX9_number]
def wsX9_recipe_r2 : List Cond := [Cond.selects RX9 yX9_number yX9_number, Cond.code yX9_number cX9_number 6 (some .int), Cond.methodLink RX9 83 yX9_in, Cond.static yX9_in, Cond.code yX9_in cX9_in 3 (some .boolean), Cond.methodLink RX9 110 yX9_blanks, Cond.instanceMethod yX9_blanks, Cond.selects RX9 yX9_blanks yX9_blanks, Cond.code yX9_blanks cX9_blanks 1 (some .boolean), Cond.methodLink RX9 79 yX9_holds, Cond.static yX9_holds, Cond.code yX9_holds cX9_holds 3 (some .boolean)]
def wsX9_recipe : List Cond := .code yX9_recipe cX9_recipe 2 (some .int) :: ((wsX9_recipe_r1 ++ wsX9_recipe_r2) ++ wsX90)
def wsX9_isRecipe : List Cond := .code yX9_isRecipe cX9_isRecipe 2 (some .boolean) :: ([.fieldLink RX9 114 "HiddenWorksModel" "recipes" "I", .methodLink RX9 83 yX9_in, .static yX9_in, .initialized RX9, .code yX9_in cX9_in 3 (some .boolean)] ++ wsX90)
def wsX9_recipeTold : List Cond := .code yX9_recipeTold cX9_recipeTold 3 (some .int) :: ([.fieldLink RX9 13 "HiddenWorksModel" "rKind" "[I", .fieldLink RX9 16 "HiddenWorksModel" "rLetters" "[I", .fieldLink RX9 19 "HiddenWorksModel" "rClauses" "[I", .fieldLink RX9 22 "HiddenWorksModel" "rWide" "[I", .fieldLink RX9 25 "HiddenWorksModel" "rWeight" "[I", .methodLink RX9 121 yX9_isRecipe, .instanceMethod yX9_isRecipe, .selects RX9 yX9_isRecipe yX9_isRecipe, .initialized RX9, .code yX9_isRecipe cX9_isRecipe 2 (some .boolean), .fieldLink RX9 114 "HiddenWorksModel" "recipes" "I", .methodLink RX9 83 yX9_in, .static yX9_in, .code yX9_in cX9_in 3 (some .boolean)] ++ wsX90)
def wsX9_ways : List Cond := .code yX9_ways cX9_ways 2 (some .int) :: ([])
def wsX9_all : List Cond := .code yX9_all cX9_all 4 (some .int) :: ([.fieldLink RX9 22 "HiddenWorksModel" "rWide" "[I", .fieldLink RX9 25 "HiddenWorksModel" "rWeight" "[I", .methodLink RX9 124 yX9_ways, .static yX9_ways, .initialized RX9, .code yX9_ways cX9_ways 2 (some .int)] ++ wsX90)
def wsX9_draw : List Cond := .code yX9_draw cX9_draw 2 (some .int) :: ([.fieldLink RX9 127 "HiddenWorksModel" "lot" "J", .constantLong RX9 131 (48271), .constantLong RX9 133 (2147483647), .constantLong RX9 135 (16)] ++ wsX90)
def wsX9_choose : List Cond := .code yX9_choose cX9_choose 7 none :: ([.fieldLink RX9 73 "HiddenWorksModel" "chosen" "[I", .methodLink RX9 137 yX9_draw, .instanceMethod yX9_draw, .selects RX9 yX9_draw yX9_draw, .initialized RX9, .code yX9_draw cX9_draw 2 (some .int), .fieldLink RX9 127 "HiddenWorksModel" "lot" "J", .constantLong RX9 131 (48271), .constantLong RX9 133 (2147483647), .constantLong RX9 135 (16)] ++ wsX90)
def wsX9_truths : List Cond := .code yX9_truths cX9_truths 7 (some .int) :: ([.fieldLink RX9 22 "HiddenWorksModel" "rWide" "[I", .fieldLink RX9 25 "HiddenWorksModel" "rWeight" "[I", .methodLink RX9 141 yX9_all, .instanceMethod yX9_all, .selects RX9 yX9_all yX9_all, .initialized RX9, .code yX9_all cX9_all 4 (some .int), .methodLink RX9 124 yX9_ways, .static yX9_ways, .code yX9_ways cX9_ways 2 (some .int), .methodLink RX9 137 yX9_draw, .instanceMethod yX9_draw, .selects RX9 yX9_draw yX9_draw, .code yX9_draw cX9_draw 2 (some .int), .fieldLink RX9 127 "HiddenWorksModel" "lot" "J", .constantLong RX9 131 (48271), .constantLong RX9 133 (2147483647), .constantLong RX9 135 (16)] ++ wsX90)
def wsX9_makes_r1 : List Cond := [Cond.fieldLink RX9 127 "HiddenWorksModel" "lot" "J", Cond.fieldLink RX9 28 "HiddenWorksModel" "kind" "[I", Cond.fieldLink RX9 13 "HiddenWorksModel" "rKind" "[I", Cond.fieldLink RX9 31 "HiddenWorksModel" "letters" "[I", Cond.fieldLink RX9 16 "HiddenWorksModel" "rLetters" "[I", Cond.fieldLink RX9 34 "HiddenWorksModel" "clauses" "[I", Cond.fieldLink RX9 19 "HiddenWorksModel" "rClauses" "[I", Cond.fieldLink RX9 40 "HiddenWorksModel" "recipeOf" "[I", Cond.fieldLink RX9 43 "HiddenWorksModel" "seedOf" "[I", Cond.fieldLink RX9 37 "HiddenWorksModel" "hidden" "[I", Cond.fieldLink RX9 22 "HiddenWorksModel" "rWide" "[I", Cond.fieldLink RX9 73 "HiddenWorksModel" "chosen" "[I", Cond.fieldLink RX9 46 "HiddenWorksModel" "plain" "[I", Cond.fieldLink RX9 49 "HiddenWorksModel" "against" "[I", Cond.methodLink RX9 137 yX9_draw, Cond.instanceMethod yX9_draw, Cond.selects RX9 yX9_draw yX9_draw, Cond.initialized RX9, Cond.code yX9_draw cX9_draw 2 (some .int), Cond.constantLong RX9 131 (48271), Cond.constantLong RX9 133 (2147483647), Cond.constantLong RX9 135 (16), Cond.methodLink RX9 144 yX9_choose, Cond.instanceMethod yX9_choose]
def wsX9_makes_r2 : List Cond := [Cond.selects RX9 yX9_choose yX9_choose, Cond.code yX9_choose cX9_choose 7 none, Cond.methodLink RX9 148 yX9_truths, Cond.instanceMethod yX9_truths, Cond.selects RX9 yX9_truths yX9_truths, Cond.code yX9_truths cX9_truths 7 (some .int), Cond.fieldLink RX9 25 "HiddenWorksModel" "rWeight" "[I", Cond.methodLink RX9 141 yX9_all, Cond.instanceMethod yX9_all, Cond.selects RX9 yX9_all yX9_all, Cond.code yX9_all cX9_all 4 (some .int), Cond.methodLink RX9 124 yX9_ways, Cond.static yX9_ways, Cond.code yX9_ways cX9_ways 2 (some .int)]
def wsX9_makes : List Cond := .code yX9_makes cX9_makes 11 none :: ((wsX9_makes_r1 ++ wsX9_makes_r2) ++ wsX90)
def wsX9_make_r1 : List Cond := [Cond.constant RX9 151 (99999), Cond.fieldLink RX9 152 "HiddenWorksModel" "tasks" "I", Cond.methodLink RX9 121 yX9_isRecipe, Cond.instanceMethod yX9_isRecipe, Cond.selects RX9 yX9_isRecipe yX9_isRecipe, Cond.initialized RX9, Cond.code yX9_isRecipe cX9_isRecipe 2 (some .boolean), Cond.fieldLink RX9 114 "HiddenWorksModel" "recipes" "I", Cond.methodLink RX9 83 yX9_in, Cond.static yX9_in, Cond.code yX9_in cX9_in 3 (some .boolean), Cond.methodLink RX9 155 yX9_makes, Cond.instanceMethod yX9_makes, Cond.selects RX9 yX9_makes yX9_makes, Cond.code yX9_makes cX9_makes 11 none, Cond.fieldLink RX9 127 "HiddenWorksModel" "lot" "J", Cond.fieldLink RX9 28 "HiddenWorksModel" "kind" "[I", Cond.fieldLink RX9 13 "HiddenWorksModel" "rKind" "[I", Cond.fieldLink RX9 31 "HiddenWorksModel" "letters" "[I", Cond.fieldLink RX9 16 "HiddenWorksModel" "rLetters" "[I", Cond.fieldLink RX9 34 "HiddenWorksModel" "clauses" "[I", Cond.fieldLink RX9 19 "HiddenWorksModel" "rClauses" "[I", Cond.fieldLink RX9 40 "HiddenWorksModel" "recipeOf" "[I", Cond.fieldLink RX9 43 "HiddenWorksModel" "seedOf" "[I"]
def wsX9_make_r2 : List Cond := [Cond.fieldLink RX9 37 "HiddenWorksModel" "hidden" "[I", Cond.fieldLink RX9 22 "HiddenWorksModel" "rWide" "[I", Cond.fieldLink RX9 73 "HiddenWorksModel" "chosen" "[I", Cond.fieldLink RX9 46 "HiddenWorksModel" "plain" "[I", Cond.fieldLink RX9 49 "HiddenWorksModel" "against" "[I", Cond.methodLink RX9 137 yX9_draw, Cond.instanceMethod yX9_draw, Cond.selects RX9 yX9_draw yX9_draw, Cond.code yX9_draw cX9_draw 2 (some .int), Cond.constantLong RX9 131 (48271), Cond.constantLong RX9 133 (2147483647), Cond.constantLong RX9 135 (16), Cond.methodLink RX9 144 yX9_choose, Cond.instanceMethod yX9_choose, Cond.selects RX9 yX9_choose yX9_choose, Cond.code yX9_choose cX9_choose 7 none, Cond.methodLink RX9 148 yX9_truths, Cond.instanceMethod yX9_truths, Cond.selects RX9 yX9_truths yX9_truths, Cond.code yX9_truths cX9_truths 7 (some .int), Cond.fieldLink RX9 25 "HiddenWorksModel" "rWeight" "[I", Cond.methodLink RX9 141 yX9_all, Cond.instanceMethod yX9_all, Cond.selects RX9 yX9_all yX9_all]
def wsX9_make_r3 : List Cond := [Cond.code yX9_all cX9_all 4 (some .int), Cond.methodLink RX9 124 yX9_ways, Cond.static yX9_ways, Cond.code yX9_ways cX9_ways 2 (some .int)]
def wsX9_make : List Cond := .code yX9_make cX9_make 3 (some .int) :: ((wsX9_make_r1 ++ (wsX9_make_r2 ++ wsX9_make_r3)) ++ wsX90)
def wsX9_wild : List Cond := .code yX9_wild cX9_wild 8 (some .int) :: ([.fieldLink RX9 64 "HiddenWorksModel" "sheetSort" "[I", .fieldLink RX9 67 "HiddenWorksModel" "sheetSize" "[I", .fieldLink RX9 70 "HiddenWorksModel" "cells" "[I", .fieldLink RX9 152 "HiddenWorksModel" "tasks" "I", .fieldLink RX9 28 "HiddenWorksModel" "kind" "[I", .fieldLink RX9 31 "HiddenWorksModel" "letters" "[I", .fieldLink RX9 34 "HiddenWorksModel" "clauses" "[I", .fieldLink RX9 37 "HiddenWorksModel" "hidden" "[I", .fieldLink RX9 40 "HiddenWorksModel" "recipeOf" "[I", .fieldLink RX9 43 "HiddenWorksModel" "seedOf" "[I", .fieldLink RX9 46 "HiddenWorksModel" "plain" "[I", .fieldLink RX9 49 "HiddenWorksModel" "against" "[I", .methodLink RX9 83 yX9_in, .static yX9_in, .initialized RX9, .code yX9_in cX9_in 3 (some .boolean), .methodLink RX9 159 yX9_ones, .static yX9_ones, .code yX9_ones cX9_ones 3 (some .int)] ++ wsX90)
def wsX9_isTask : List Cond := .code yX9_isTask cX9_isTask 2 (some .boolean) :: ([.fieldLink RX9 152 "HiddenWorksModel" "tasks" "I", .methodLink RX9 83 yX9_in, .static yX9_in, .initialized RX9, .code yX9_in cX9_in 3 (some .boolean)] ++ wsX90)
def wsX9_taskTold : List Cond := .code yX9_taskTold cX9_taskTold 3 (some .int) :: ([.fieldLink RX9 28 "HiddenWorksModel" "kind" "[I", .fieldLink RX9 31 "HiddenWorksModel" "letters" "[I", .fieldLink RX9 34 "HiddenWorksModel" "clauses" "[I", .fieldLink RX9 37 "HiddenWorksModel" "hidden" "[I", .fieldLink RX9 40 "HiddenWorksModel" "recipeOf" "[I", .fieldLink RX9 43 "HiddenWorksModel" "seedOf" "[I", .methodLink RX9 162 yX9_isTask, .instanceMethod yX9_isTask, .selects RX9 yX9_isTask yX9_isTask, .initialized RX9, .code yX9_isTask cX9_isTask 2 (some .boolean), .fieldLink RX9 152 "HiddenWorksModel" "tasks" "I", .methodLink RX9 83 yX9_in, .static yX9_in, .code yX9_in cX9_in 3 (some .boolean)] ++ wsX90)
def wsX9_clauseTold : List Cond := .code yX9_clauseTold cX9_clauseTold 4 (some .int) :: ([.fieldLink RX9 34 "HiddenWorksModel" "clauses" "[I", .fieldLink RX9 46 "HiddenWorksModel" "plain" "[I", .fieldLink RX9 49 "HiddenWorksModel" "against" "[I", .methodLink RX9 162 yX9_isTask, .instanceMethod yX9_isTask, .selects RX9 yX9_isTask yX9_isTask, .initialized RX9, .code yX9_isTask cX9_isTask 2 (some .boolean), .fieldLink RX9 152 "HiddenWorksModel" "tasks" "I", .methodLink RX9 83 yX9_in, .static yX9_in, .code yX9_in cX9_in 3 (some .boolean)] ++ wsX90)
def wsX9_is : List Cond := .code yX9_is cX9_is 3 (some .int) :: ([.fieldLink RX9 46 "HiddenWorksModel" "plain" "[I", .fieldLink RX9 49 "HiddenWorksModel" "against" "[I", .methodLink RX9 159 yX9_ones, .static yX9_ones, .initialized RX9, .code yX9_ones cX9_ones 3 (some .int)] ++ wsX90)
def wsX9_wide : List Cond := .code yX9_wide cX9_wide 2 (some .int) :: ([.fieldLink RX9 46 "HiddenWorksModel" "plain" "[I", .fieldLink RX9 49 "HiddenWorksModel" "against" "[I", .methodLink RX9 159 yX9_ones, .static yX9_ones, .initialized RX9, .code yX9_ones cX9_ones 3 (some .int)] ++ wsX90)
def wsX9_firstBroken : List Cond := .code yX9_firstBroken cX9_firstBroken 4 (some .int) :: ([.fieldLink RX9 34 "HiddenWorksModel" "clauses" "[I", .fieldLink RX9 28 "HiddenWorksModel" "kind" "[I", .methodLink RX9 165 yX9_is, .instanceMethod yX9_is, .selects RX9 yX9_is yX9_is, .initialized RX9, .code yX9_is cX9_is 3 (some .int), .fieldLink RX9 46 "HiddenWorksModel" "plain" "[I", .fieldLink RX9 49 "HiddenWorksModel" "against" "[I", .methodLink RX9 159 yX9_ones, .static yX9_ones, .code yX9_ones cX9_ones 3 (some .int), .methodLink RX9 168 yX9_wide, .instanceMethod yX9_wide, .selects RX9 yX9_wide yX9_wide, .code yX9_wide cX9_wide 2 (some .int), .methodLink RX9 79 yX9_holds, .static yX9_holds, .code yX9_holds cX9_holds 3 (some .boolean)] ++ wsX90)
def wsX9_doesSolve : List Cond := .code yX9_doesSolve cX9_doesSolve 3 (some .boolean) :: ([.methodLink RX9 171 yX9_firstBroken, .instanceMethod yX9_firstBroken, .selects RX9 yX9_firstBroken yX9_firstBroken, .initialized RX9, .code yX9_firstBroken cX9_firstBroken 4 (some .int), .fieldLink RX9 34 "HiddenWorksModel" "clauses" "[I", .fieldLink RX9 28 "HiddenWorksModel" "kind" "[I", .methodLink RX9 165 yX9_is, .instanceMethod yX9_is, .selects RX9 yX9_is yX9_is, .code yX9_is cX9_is 3 (some .int), .fieldLink RX9 46 "HiddenWorksModel" "plain" "[I", .fieldLink RX9 49 "HiddenWorksModel" "against" "[I", .methodLink RX9 159 yX9_ones, .static yX9_ones, .code yX9_ones cX9_ones 3 (some .int), .methodLink RX9 168 yX9_wide, .instanceMethod yX9_wide, .selects RX9 yX9_wide yX9_wide, .code yX9_wide cX9_wide 2 (some .int), .methodLink RX9 79 yX9_holds, .static yX9_holds, .code yX9_holds cX9_holds 3 (some .boolean)] ++ wsX90)
def wsX9_isRow : List Cond := .code yX9_isRow cX9_isRow 3 (some .boolean) :: ([.fieldLink RX9 31 "HiddenWorksModel" "letters" "[I", .methodLink RX9 83 yX9_in, .static yX9_in, .initialized RX9, .code yX9_in cX9_in 3 (some .boolean)] ++ wsX90)
def wsX9_solves_r1 : List Cond := [Cond.methodLink RX9 162 yX9_isTask, Cond.instanceMethod yX9_isTask, Cond.selects RX9 yX9_isTask yX9_isTask, Cond.initialized RX9, Cond.code yX9_isTask cX9_isTask 2 (some .boolean), Cond.fieldLink RX9 152 "HiddenWorksModel" "tasks" "I", Cond.methodLink RX9 83 yX9_in, Cond.static yX9_in, Cond.code yX9_in cX9_in 3 (some .boolean), Cond.methodLink RX9 174 yX9_isRow, Cond.instanceMethod yX9_isRow, Cond.selects RX9 yX9_isRow yX9_isRow, Cond.code yX9_isRow cX9_isRow 3 (some .boolean), Cond.fieldLink RX9 31 "HiddenWorksModel" "letters" "[I", Cond.methodLink RX9 171 yX9_firstBroken, Cond.instanceMethod yX9_firstBroken, Cond.selects RX9 yX9_firstBroken yX9_firstBroken, Cond.code yX9_firstBroken cX9_firstBroken 4 (some .int), Cond.fieldLink RX9 34 "HiddenWorksModel" "clauses" "[I", Cond.fieldLink RX9 28 "HiddenWorksModel" "kind" "[I", Cond.methodLink RX9 165 yX9_is, Cond.instanceMethod yX9_is, Cond.selects RX9 yX9_is yX9_is, Cond.code yX9_is cX9_is 3 (some .int)]
def wsX9_solves_r2 : List Cond := [Cond.fieldLink RX9 46 "HiddenWorksModel" "plain" "[I", Cond.fieldLink RX9 49 "HiddenWorksModel" "against" "[I", Cond.methodLink RX9 159 yX9_ones, Cond.static yX9_ones, Cond.code yX9_ones cX9_ones 3 (some .int), Cond.methodLink RX9 168 yX9_wide, Cond.instanceMethod yX9_wide, Cond.selects RX9 yX9_wide yX9_wide, Cond.code yX9_wide cX9_wide 2 (some .int), Cond.methodLink RX9 79 yX9_holds, Cond.static yX9_holds, Cond.code yX9_holds cX9_holds 3 (some .boolean)]
def wsX9_solves : List Cond := .code yX9_solves cX9_solves 3 (some .int) :: ((wsX9_solves_r1 ++ wsX9_solves_r2) ++ wsX90)
def wsX9_answersOf_r1 : List Cond := [Cond.fieldLink RX9 31 "HiddenWorksModel" "letters" "[I", Cond.methodLink RX9 178 yX9_doesSolve, Cond.instanceMethod yX9_doesSolve, Cond.selects RX9 yX9_doesSolve yX9_doesSolve, Cond.initialized RX9, Cond.code yX9_doesSolve cX9_doesSolve 3 (some .boolean), Cond.methodLink RX9 171 yX9_firstBroken, Cond.instanceMethod yX9_firstBroken, Cond.selects RX9 yX9_firstBroken yX9_firstBroken, Cond.code yX9_firstBroken cX9_firstBroken 4 (some .int), Cond.fieldLink RX9 34 "HiddenWorksModel" "clauses" "[I", Cond.fieldLink RX9 28 "HiddenWorksModel" "kind" "[I", Cond.methodLink RX9 165 yX9_is, Cond.instanceMethod yX9_is, Cond.selects RX9 yX9_is yX9_is, Cond.code yX9_is cX9_is 3 (some .int), Cond.fieldLink RX9 46 "HiddenWorksModel" "plain" "[I", Cond.fieldLink RX9 49 "HiddenWorksModel" "against" "[I", Cond.methodLink RX9 159 yX9_ones, Cond.static yX9_ones, Cond.code yX9_ones cX9_ones 3 (some .int), Cond.methodLink RX9 168 yX9_wide, Cond.instanceMethod yX9_wide, Cond.selects RX9 yX9_wide yX9_wide]
def wsX9_answersOf_r2 : List Cond := [Cond.code yX9_wide cX9_wide 2 (some .int), Cond.methodLink RX9 79 yX9_holds, Cond.static yX9_holds, Cond.code yX9_holds cX9_holds 3 (some .boolean)]
def wsX9_answersOf : List Cond := .code yX9_answersOf cX9_answersOf 6 (some .int) :: ((wsX9_answersOf_r1 ++ wsX9_answersOf_r2) ++ wsX90)
def wsX9_answers_r1 : List Cond := [Cond.methodLink RX9 162 yX9_isTask, Cond.instanceMethod yX9_isTask, Cond.selects RX9 yX9_isTask yX9_isTask, Cond.initialized RX9, Cond.code yX9_isTask cX9_isTask 2 (some .boolean), Cond.fieldLink RX9 152 "HiddenWorksModel" "tasks" "I", Cond.methodLink RX9 83 yX9_in, Cond.static yX9_in, Cond.code yX9_in cX9_in 3 (some .boolean), Cond.methodLink RX9 174 yX9_isRow, Cond.instanceMethod yX9_isRow, Cond.selects RX9 yX9_isRow yX9_isRow, Cond.code yX9_isRow cX9_isRow 3 (some .boolean), Cond.fieldLink RX9 31 "HiddenWorksModel" "letters" "[I", Cond.methodLink RX9 181 yX9_answersOf, Cond.instanceMethod yX9_answersOf, Cond.selects RX9 yX9_answersOf yX9_answersOf, Cond.code yX9_answersOf cX9_answersOf 6 (some .int), Cond.methodLink RX9 178 yX9_doesSolve, Cond.instanceMethod yX9_doesSolve, Cond.selects RX9 yX9_doesSolve yX9_doesSolve, Cond.code yX9_doesSolve cX9_doesSolve 3 (some .boolean), Cond.methodLink RX9 171 yX9_firstBroken, Cond.instanceMethod yX9_firstBroken]
def wsX9_answers_r2 : List Cond := [Cond.selects RX9 yX9_firstBroken yX9_firstBroken, Cond.code yX9_firstBroken cX9_firstBroken 4 (some .int), Cond.fieldLink RX9 34 "HiddenWorksModel" "clauses" "[I", Cond.fieldLink RX9 28 "HiddenWorksModel" "kind" "[I", Cond.methodLink RX9 165 yX9_is, Cond.instanceMethod yX9_is, Cond.selects RX9 yX9_is yX9_is, Cond.code yX9_is cX9_is 3 (some .int), Cond.fieldLink RX9 46 "HiddenWorksModel" "plain" "[I", Cond.fieldLink RX9 49 "HiddenWorksModel" "against" "[I", Cond.methodLink RX9 159 yX9_ones, Cond.static yX9_ones, Cond.code yX9_ones cX9_ones 3 (some .int), Cond.methodLink RX9 168 yX9_wide, Cond.instanceMethod yX9_wide, Cond.selects RX9 yX9_wide yX9_wide, Cond.code yX9_wide cX9_wide 2 (some .int), Cond.methodLink RX9 79 yX9_holds, Cond.static yX9_holds, Cond.code yX9_holds cX9_holds 3 (some .boolean)]
def wsX9_answers : List Cond := .code yX9_answers cX9_answers 4 (some .int) :: ((wsX9_answers_r1 ++ wsX9_answers_r2) ++ wsX90)
def wsX9_answer_r1 : List Cond := [Cond.fieldLink RX9 31 "HiddenWorksModel" "letters" "[I", Cond.methodLink RX9 162 yX9_isTask, Cond.instanceMethod yX9_isTask, Cond.selects RX9 yX9_isTask yX9_isTask, Cond.initialized RX9, Cond.code yX9_isTask cX9_isTask 2 (some .boolean), Cond.fieldLink RX9 152 "HiddenWorksModel" "tasks" "I", Cond.methodLink RX9 83 yX9_in, Cond.static yX9_in, Cond.code yX9_in cX9_in 3 (some .boolean), Cond.methodLink RX9 178 yX9_doesSolve, Cond.instanceMethod yX9_doesSolve, Cond.selects RX9 yX9_doesSolve yX9_doesSolve, Cond.code yX9_doesSolve cX9_doesSolve 3 (some .boolean), Cond.methodLink RX9 171 yX9_firstBroken, Cond.instanceMethod yX9_firstBroken, Cond.selects RX9 yX9_firstBroken yX9_firstBroken, Cond.code yX9_firstBroken cX9_firstBroken 4 (some .int), Cond.fieldLink RX9 34 "HiddenWorksModel" "clauses" "[I", Cond.fieldLink RX9 28 "HiddenWorksModel" "kind" "[I", Cond.methodLink RX9 165 yX9_is, Cond.instanceMethod yX9_is, Cond.selects RX9 yX9_is yX9_is, Cond.code yX9_is cX9_is 3 (some .int)]
def wsX9_answer_r2 : List Cond := [Cond.fieldLink RX9 46 "HiddenWorksModel" "plain" "[I", Cond.fieldLink RX9 49 "HiddenWorksModel" "against" "[I", Cond.methodLink RX9 159 yX9_ones, Cond.static yX9_ones, Cond.code yX9_ones cX9_ones 3 (some .int), Cond.methodLink RX9 168 yX9_wide, Cond.instanceMethod yX9_wide, Cond.selects RX9 yX9_wide yX9_wide, Cond.code yX9_wide cX9_wide 2 (some .int), Cond.methodLink RX9 79 yX9_holds, Cond.static yX9_holds, Cond.code yX9_holds cX9_holds 3 (some .boolean)]
def wsX9_answer : List Cond := .code yX9_answer cX9_answer 5 (some .int) :: ((wsX9_answer_r1 ++ wsX9_answer_r2) ++ wsX90)
def wsX9_nearest_r1 : List Cond := [Cond.fieldLink RX9 31 "HiddenWorksModel" "letters" "[I", Cond.methodLink RX9 162 yX9_isTask, Cond.instanceMethod yX9_isTask, Cond.selects RX9 yX9_isTask yX9_isTask, Cond.initialized RX9, Cond.code yX9_isTask cX9_isTask 2 (some .boolean), Cond.fieldLink RX9 152 "HiddenWorksModel" "tasks" "I", Cond.methodLink RX9 83 yX9_in, Cond.static yX9_in, Cond.code yX9_in cX9_in 3 (some .boolean), Cond.methodLink RX9 174 yX9_isRow, Cond.instanceMethod yX9_isRow, Cond.selects RX9 yX9_isRow yX9_isRow, Cond.code yX9_isRow cX9_isRow 3 (some .boolean), Cond.methodLink RX9 178 yX9_doesSolve, Cond.instanceMethod yX9_doesSolve, Cond.selects RX9 yX9_doesSolve yX9_doesSolve, Cond.code yX9_doesSolve cX9_doesSolve 3 (some .boolean), Cond.methodLink RX9 171 yX9_firstBroken, Cond.instanceMethod yX9_firstBroken, Cond.selects RX9 yX9_firstBroken yX9_firstBroken, Cond.code yX9_firstBroken cX9_firstBroken 4 (some .int), Cond.fieldLink RX9 34 "HiddenWorksModel" "clauses" "[I", Cond.fieldLink RX9 28 "HiddenWorksModel" "kind" "[I"]
def wsX9_nearest_r2 : List Cond := [Cond.methodLink RX9 165 yX9_is, Cond.instanceMethod yX9_is, Cond.selects RX9 yX9_is yX9_is, Cond.code yX9_is cX9_is 3 (some .int), Cond.fieldLink RX9 46 "HiddenWorksModel" "plain" "[I", Cond.fieldLink RX9 49 "HiddenWorksModel" "against" "[I", Cond.methodLink RX9 159 yX9_ones, Cond.static yX9_ones, Cond.code yX9_ones cX9_ones 3 (some .int), Cond.methodLink RX9 168 yX9_wide, Cond.instanceMethod yX9_wide, Cond.selects RX9 yX9_wide yX9_wide, Cond.code yX9_wide cX9_wide 2 (some .int), Cond.methodLink RX9 79 yX9_holds, Cond.static yX9_holds, Cond.code yX9_holds cX9_holds 3 (some .boolean)]
def wsX9_nearest : List Cond := .code yX9_nearest cX9_nearest 5 (some .int) :: ((wsX9_nearest_r1 ++ wsX9_nearest_r2) ++ wsX90)
def wsX9_hint_r1 : List Cond := [Cond.fieldLink RX9 31 "HiddenWorksModel" "letters" "[I", Cond.methodLink RX9 162 yX9_isTask, Cond.instanceMethod yX9_isTask, Cond.selects RX9 yX9_isTask yX9_isTask, Cond.initialized RX9, Cond.code yX9_isTask cX9_isTask 2 (some .boolean), Cond.fieldLink RX9 152 "HiddenWorksModel" "tasks" "I", Cond.methodLink RX9 83 yX9_in, Cond.static yX9_in, Cond.code yX9_in cX9_in 3 (some .boolean), Cond.methodLink RX9 181 yX9_answersOf, Cond.instanceMethod yX9_answersOf, Cond.selects RX9 yX9_answersOf yX9_answersOf, Cond.code yX9_answersOf cX9_answersOf 6 (some .int), Cond.methodLink RX9 178 yX9_doesSolve, Cond.instanceMethod yX9_doesSolve, Cond.selects RX9 yX9_doesSolve yX9_doesSolve, Cond.code yX9_doesSolve cX9_doesSolve 3 (some .boolean), Cond.methodLink RX9 171 yX9_firstBroken, Cond.instanceMethod yX9_firstBroken, Cond.selects RX9 yX9_firstBroken yX9_firstBroken, Cond.code yX9_firstBroken cX9_firstBroken 4 (some .int), Cond.fieldLink RX9 34 "HiddenWorksModel" "clauses" "[I", Cond.fieldLink RX9 28 "HiddenWorksModel" "kind" "[I"]
def wsX9_hint_r2 : List Cond := [Cond.methodLink RX9 165 yX9_is, Cond.instanceMethod yX9_is, Cond.selects RX9 yX9_is yX9_is, Cond.code yX9_is cX9_is 3 (some .int), Cond.fieldLink RX9 46 "HiddenWorksModel" "plain" "[I", Cond.fieldLink RX9 49 "HiddenWorksModel" "against" "[I", Cond.methodLink RX9 159 yX9_ones, Cond.static yX9_ones, Cond.code yX9_ones cX9_ones 3 (some .int), Cond.methodLink RX9 168 yX9_wide, Cond.instanceMethod yX9_wide, Cond.selects RX9 yX9_wide yX9_wide, Cond.code yX9_wide cX9_wide 2 (some .int), Cond.methodLink RX9 79 yX9_holds, Cond.static yX9_holds, Cond.code yX9_holds cX9_holds 3 (some .boolean)]
def wsX9_hint : List Cond := .code yX9_hint cX9_hint 6 (some .int) :: ((wsX9_hint_r1 ++ wsX9_hint_r2) ++ wsX90)
def wsX9_needed_r1 : List Cond := [Cond.fieldLink RX9 31 "HiddenWorksModel" "letters" "[I", Cond.fieldLink RX9 34 "HiddenWorksModel" "clauses" "[I", Cond.fieldLink RX9 28 "HiddenWorksModel" "kind" "[I", Cond.methodLink RX9 162 yX9_isTask, Cond.instanceMethod yX9_isTask, Cond.selects RX9 yX9_isTask yX9_isTask, Cond.initialized RX9, Cond.code yX9_isTask cX9_isTask 2 (some .boolean), Cond.fieldLink RX9 152 "HiddenWorksModel" "tasks" "I", Cond.methodLink RX9 83 yX9_in, Cond.static yX9_in, Cond.code yX9_in cX9_in 3 (some .boolean), Cond.methodLink RX9 165 yX9_is, Cond.instanceMethod yX9_is, Cond.selects RX9 yX9_is yX9_is, Cond.code yX9_is cX9_is 3 (some .int), Cond.fieldLink RX9 46 "HiddenWorksModel" "plain" "[I", Cond.fieldLink RX9 49 "HiddenWorksModel" "against" "[I", Cond.methodLink RX9 159 yX9_ones, Cond.static yX9_ones, Cond.code yX9_ones cX9_ones 3 (some .int), Cond.methodLink RX9 168 yX9_wide, Cond.instanceMethod yX9_wide, Cond.selects RX9 yX9_wide yX9_wide]
def wsX9_needed_r2 : List Cond := [Cond.code yX9_wide cX9_wide 2 (some .int), Cond.methodLink RX9 79 yX9_holds, Cond.static yX9_holds, Cond.code yX9_holds cX9_holds 3 (some .boolean)]
def wsX9_needed : List Cond := .code yX9_needed cX9_needed 7 (some .int) :: ((wsX9_needed_r1 ++ wsX9_needed_r2) ++ wsX90)
def wsX9_more : List Cond := .code yX9_more cX9_more 5 (some .int) :: ([.fieldLink RX9 34 "HiddenWorksModel" "clauses" "[I", .fieldLink RX9 46 "HiddenWorksModel" "plain" "[I", .fieldLink RX9 49 "HiddenWorksModel" "against" "[I"] ++ wsX90)
def wsX9_lean : List Cond := .code yX9_lean cX9_lean 4 (some .int) :: ([.fieldLink RX9 31 "HiddenWorksModel" "letters" "[I", .fieldLink RX9 37 "HiddenWorksModel" "hidden" "[I", .methodLink RX9 162 yX9_isTask, .instanceMethod yX9_isTask, .selects RX9 yX9_isTask yX9_isTask, .initialized RX9, .code yX9_isTask cX9_isTask 2 (some .boolean), .fieldLink RX9 152 "HiddenWorksModel" "tasks" "I", .methodLink RX9 83 yX9_in, .static yX9_in, .code yX9_in cX9_in 3 (some .boolean), .methodLink RX9 184 yX9_more, .instanceMethod yX9_more, .selects RX9 yX9_more yX9_more, .code yX9_more cX9_more 5 (some .int), .fieldLink RX9 34 "HiddenWorksModel" "clauses" "[I", .fieldLink RX9 46 "HiddenWorksModel" "plain" "[I", .fieldLink RX9 49 "HiddenWorksModel" "against" "[I"] ++ wsX90)
def wsX9_lowest : List Cond := .code yX9_lowest cX9_lowest 11 (some .long) :: ([])
def wsX9_leanSum : List Cond := .code yX9_leanSum cX9_leanSum 4 (some .int) :: ([.fieldLink RX9 22 "HiddenWorksModel" "rWide" "[I", .fieldLink RX9 25 "HiddenWorksModel" "rWeight" "[I", .methodLink RX9 124 yX9_ways, .static yX9_ways, .initialized RX9, .code yX9_ways cX9_ways 2 (some .int)] ++ wsX90)
def wsX9_leans_r1 : List Cond := [Cond.fieldLink RX9 22 "HiddenWorksModel" "rWide" "[I", Cond.constantLong RX9 194 (-4611686018427387904), Cond.methodLink RX9 121 yX9_isRecipe, Cond.instanceMethod yX9_isRecipe, Cond.selects RX9 yX9_isRecipe yX9_isRecipe, Cond.initialized RX9, Cond.code yX9_isRecipe cX9_isRecipe 2 (some .boolean), Cond.fieldLink RX9 114 "HiddenWorksModel" "recipes" "I", Cond.methodLink RX9 83 yX9_in, Cond.static yX9_in, Cond.code yX9_in cX9_in 3 (some .boolean), Cond.methodLink RX9 187 yX9_leanSum, Cond.instanceMethod yX9_leanSum, Cond.selects RX9 yX9_leanSum yX9_leanSum, Cond.code yX9_leanSum cX9_leanSum 4 (some .int), Cond.fieldLink RX9 25 "HiddenWorksModel" "rWeight" "[I", Cond.methodLink RX9 124 yX9_ways, Cond.static yX9_ways, Cond.code yX9_ways cX9_ways 2 (some .int), Cond.methodLink RX9 141 yX9_all, Cond.instanceMethod yX9_all, Cond.selects RX9 yX9_all yX9_all, Cond.code yX9_all cX9_all 4 (some .int), Cond.methodLink RX9 190 yX9_lowest]
def wsX9_leans_r2 : List Cond := [Cond.static yX9_lowest, Cond.code yX9_lowest cX9_lowest 11 (some .long)]
def wsX9_leans : List Cond := .code yX9_leans cX9_leans 3 (some .long) :: ((wsX9_leans_r1 ++ wsX9_leans_r2) ++ wsX90)
def wsX9_pairs : List Cond := .code yX9_pairs cX9_pairs 7 (some .long) :: ([.constantLong RX9 194 (-4611686018427387904), .fieldLink RX9 22 "HiddenWorksModel" "rWide" "[I", .fieldLink RX9 25 "HiddenWorksModel" "rWeight" "[I", .methodLink RX9 121 yX9_isRecipe, .instanceMethod yX9_isRecipe, .selects RX9 yX9_isRecipe yX9_isRecipe, .initialized RX9, .code yX9_isRecipe cX9_isRecipe 2 (some .boolean), .fieldLink RX9 114 "HiddenWorksModel" "recipes" "I", .methodLink RX9 83 yX9_in, .static yX9_in, .code yX9_in cX9_in 3 (some .boolean), .methodLink RX9 124 yX9_ways, .static yX9_ways, .code yX9_ways cX9_ways 2 (some .int), .methodLink RX9 141 yX9_all, .instanceMethod yX9_all, .selects RX9 yX9_all yX9_all, .code yX9_all cX9_all 4 (some .int), .methodLink RX9 190 yX9_lowest, .static yX9_lowest, .code yX9_lowest cX9_lowest 11 (some .long)] ++ wsX90)
def wsX9_balance_r1 : List Cond := [Cond.fieldLink RX9 22 "HiddenWorksModel" "rWide" "[I", Cond.fieldLink RX9 25 "HiddenWorksModel" "rWeight" "[I", Cond.fieldLink RX9 13 "HiddenWorksModel" "rKind" "[I", Cond.methodLink RX9 121 yX9_isRecipe, Cond.instanceMethod yX9_isRecipe, Cond.selects RX9 yX9_isRecipe yX9_isRecipe, Cond.initialized RX9, Cond.code yX9_isRecipe cX9_isRecipe 2 (some .boolean), Cond.fieldLink RX9 114 "HiddenWorksModel" "recipes" "I", Cond.methodLink RX9 83 yX9_in, Cond.static yX9_in, Cond.code yX9_in cX9_in 3 (some .boolean), Cond.methodLink RX9 79 yX9_holds, Cond.static yX9_holds, Cond.code yX9_holds cX9_holds 3 (some .boolean), Cond.methodLink RX9 187 yX9_leanSum, Cond.instanceMethod yX9_leanSum, Cond.selects RX9 yX9_leanSum yX9_leanSum, Cond.code yX9_leanSum cX9_leanSum 4 (some .int), Cond.methodLink RX9 124 yX9_ways, Cond.static yX9_ways, Cond.code yX9_ways cX9_ways 2 (some .int), Cond.methodLink RX9 141 yX9_all, Cond.instanceMethod yX9_all]
def wsX9_balance_r2 : List Cond := [Cond.selects RX9 yX9_all yX9_all, Cond.code yX9_all cX9_all 4 (some .int)]
def wsX9_balance : List Cond := .code yX9_balance cX9_balance 8 (some .int) :: ((wsX9_balance_r1 ++ wsX9_balance_r2) ++ wsX90)
def wsX9_countsRow : List Cond := .code yX9_countsRow cX9_countsRow 4 (some .int) :: ([.fieldLink RX9 31 "HiddenWorksModel" "letters" "[I", .methodLink RX9 184 yX9_more, .instanceMethod yX9_more, .selects RX9 yX9_more yX9_more, .initialized RX9, .code yX9_more cX9_more 5 (some .int), .fieldLink RX9 34 "HiddenWorksModel" "clauses" "[I", .fieldLink RX9 46 "HiddenWorksModel" "plain" "[I", .fieldLink RX9 49 "HiddenWorksModel" "against" "[I"] ++ wsX90)
def wsX9_worthOf : List Cond := .code yX9_worthOf cX9_worthOf 5 (some .int) :: ([.fieldLink RX9 34 "HiddenWorksModel" "clauses" "[I", .fieldLink RX9 28 "HiddenWorksModel" "kind" "[I", .methodLink RX9 165 yX9_is, .instanceMethod yX9_is, .selects RX9 yX9_is yX9_is, .initialized RX9, .code yX9_is cX9_is 3 (some .int), .fieldLink RX9 46 "HiddenWorksModel" "plain" "[I", .fieldLink RX9 49 "HiddenWorksModel" "against" "[I", .methodLink RX9 159 yX9_ones, .static yX9_ones, .code yX9_ones cX9_ones 3 (some .int), .methodLink RX9 168 yX9_wide, .instanceMethod yX9_wide, .selects RX9 yX9_wide yX9_wide, .code yX9_wide cX9_wide 2 (some .int), .methodLink RX9 86 yX9_worth, .static yX9_worth, .code yX9_worth cX9_worth 4 (some .int), .methodLink RX9 79 yX9_holds, .static yX9_holds, .code yX9_holds cX9_holds 3 (some .boolean)] ++ wsX90)
def wsX9_climbs_r1 : List Cond := [Cond.fieldLink RX9 196 "HiddenWorksModel" "steps" "I", Cond.fieldLink RX9 31 "HiddenWorksModel" "letters" "[I", Cond.methodLink RX9 178 yX9_doesSolve, Cond.instanceMethod yX9_doesSolve, Cond.selects RX9 yX9_doesSolve yX9_doesSolve, Cond.initialized RX9, Cond.code yX9_doesSolve cX9_doesSolve 3 (some .boolean), Cond.methodLink RX9 171 yX9_firstBroken, Cond.instanceMethod yX9_firstBroken, Cond.selects RX9 yX9_firstBroken yX9_firstBroken, Cond.code yX9_firstBroken cX9_firstBroken 4 (some .int), Cond.fieldLink RX9 34 "HiddenWorksModel" "clauses" "[I", Cond.fieldLink RX9 28 "HiddenWorksModel" "kind" "[I", Cond.methodLink RX9 165 yX9_is, Cond.instanceMethod yX9_is, Cond.selects RX9 yX9_is yX9_is, Cond.code yX9_is cX9_is 3 (some .int), Cond.fieldLink RX9 46 "HiddenWorksModel" "plain" "[I", Cond.fieldLink RX9 49 "HiddenWorksModel" "against" "[I", Cond.methodLink RX9 159 yX9_ones, Cond.static yX9_ones, Cond.code yX9_ones cX9_ones 3 (some .int), Cond.methodLink RX9 168 yX9_wide, Cond.instanceMethod yX9_wide]
def wsX9_climbs_r2 : List Cond := [Cond.selects RX9 yX9_wide yX9_wide, Cond.code yX9_wide cX9_wide 2 (some .int), Cond.methodLink RX9 79 yX9_holds, Cond.static yX9_holds, Cond.code yX9_holds cX9_holds 3 (some .boolean), Cond.methodLink RX9 199 yX9_worthOf, Cond.instanceMethod yX9_worthOf, Cond.selects RX9 yX9_worthOf yX9_worthOf, Cond.code yX9_worthOf cX9_worthOf 5 (some .int), Cond.methodLink RX9 86 yX9_worth, Cond.static yX9_worth, Cond.code yX9_worth cX9_worth 4 (some .int)]
def wsX9_climbs : List Cond := .code yX9_climbs cX9_climbs 9 (some .int) :: ((wsX9_climbs_r1 ++ wsX9_climbs_r2) ++ wsX90)
def wsX9_mayBe : List Cond := .code yX9_mayBe cX9_mayBe 7 (some .boolean) :: ([.fieldLink RX9 34 "HiddenWorksModel" "clauses" "[I", .fieldLink RX9 46 "HiddenWorksModel" "plain" "[I", .fieldLink RX9 49 "HiddenWorksModel" "against" "[I", .fieldLink RX9 28 "HiddenWorksModel" "kind" "[I", .methodLink RX9 165 yX9_is, .instanceMethod yX9_is, .selects RX9 yX9_is yX9_is, .initialized RX9, .code yX9_is cX9_is 3 (some .int), .methodLink RX9 159 yX9_ones, .static yX9_ones, .code yX9_ones cX9_ones 3 (some .int), .methodLink RX9 168 yX9_wide, .instanceMethod yX9_wide, .selects RX9 yX9_wide yX9_wide, .code yX9_wide cX9_wide 2 (some .int), .methodLink RX9 79 yX9_holds, .static yX9_holds, .code yX9_holds cX9_holds 3 (some .boolean)] ++ wsX90)
def wsX9_searches_r1 : List Cond := [Cond.fieldLink RX9 31 "HiddenWorksModel" "letters" "[I", Cond.fieldLink RX9 196 "HiddenWorksModel" "steps" "I", Cond.methodLink RX9 202 yX9_mayBe, Cond.instanceMethod yX9_mayBe, Cond.selects RX9 yX9_mayBe yX9_mayBe, Cond.initialized RX9, Cond.code yX9_mayBe cX9_mayBe 7 (some .boolean), Cond.fieldLink RX9 34 "HiddenWorksModel" "clauses" "[I", Cond.fieldLink RX9 46 "HiddenWorksModel" "plain" "[I", Cond.fieldLink RX9 49 "HiddenWorksModel" "against" "[I", Cond.fieldLink RX9 28 "HiddenWorksModel" "kind" "[I", Cond.methodLink RX9 165 yX9_is, Cond.instanceMethod yX9_is, Cond.selects RX9 yX9_is yX9_is, Cond.code yX9_is cX9_is 3 (some .int), Cond.methodLink RX9 159 yX9_ones, Cond.static yX9_ones, Cond.code yX9_ones cX9_ones 3 (some .int), Cond.methodLink RX9 168 yX9_wide, Cond.instanceMethod yX9_wide, Cond.selects RX9 yX9_wide yX9_wide, Cond.code yX9_wide cX9_wide 2 (some .int), Cond.methodLink RX9 79 yX9_holds, Cond.static yX9_holds]
def wsX9_searches_r2 : List Cond := [Cond.code yX9_holds cX9_holds 3 (some .boolean)]
def wsX9_searches : List Cond := .code yX9_searches cX9_searches 8 (some .int) :: ((wsX9_searches_r1 ++ wsX9_searches_r2) ++ wsX90)
def wsX9_finds_r1 : List Cond := [Cond.fieldLink RX9 196 "HiddenWorksModel" "steps" "I", Cond.methodLink RX9 205 yX9_countsRow, Cond.instanceMethod yX9_countsRow, Cond.selects RX9 yX9_countsRow yX9_countsRow, Cond.initialized RX9, Cond.code yX9_countsRow cX9_countsRow 4 (some .int), Cond.fieldLink RX9 31 "HiddenWorksModel" "letters" "[I", Cond.methodLink RX9 184 yX9_more, Cond.instanceMethod yX9_more, Cond.selects RX9 yX9_more yX9_more, Cond.code yX9_more cX9_more 5 (some .int), Cond.fieldLink RX9 34 "HiddenWorksModel" "clauses" "[I", Cond.fieldLink RX9 46 "HiddenWorksModel" "plain" "[I", Cond.fieldLink RX9 49 "HiddenWorksModel" "against" "[I", Cond.methodLink RX9 178 yX9_doesSolve, Cond.instanceMethod yX9_doesSolve, Cond.selects RX9 yX9_doesSolve yX9_doesSolve, Cond.code yX9_doesSolve cX9_doesSolve 3 (some .boolean), Cond.methodLink RX9 171 yX9_firstBroken, Cond.instanceMethod yX9_firstBroken, Cond.selects RX9 yX9_firstBroken yX9_firstBroken, Cond.code yX9_firstBroken cX9_firstBroken 4 (some .int), Cond.fieldLink RX9 28 "HiddenWorksModel" "kind" "[I", Cond.methodLink RX9 165 yX9_is]
def wsX9_finds_r2 : List Cond := [Cond.instanceMethod yX9_is, Cond.selects RX9 yX9_is yX9_is, Cond.code yX9_is cX9_is 3 (some .int), Cond.methodLink RX9 159 yX9_ones, Cond.static yX9_ones, Cond.code yX9_ones cX9_ones 3 (some .int), Cond.methodLink RX9 168 yX9_wide, Cond.instanceMethod yX9_wide, Cond.selects RX9 yX9_wide yX9_wide, Cond.code yX9_wide cX9_wide 2 (some .int), Cond.methodLink RX9 79 yX9_holds, Cond.static yX9_holds, Cond.code yX9_holds cX9_holds 3 (some .boolean), Cond.methodLink RX9 208 yX9_searches, Cond.instanceMethod yX9_searches, Cond.selects RX9 yX9_searches yX9_searches, Cond.code yX9_searches cX9_searches 8 (some .int), Cond.methodLink RX9 202 yX9_mayBe, Cond.instanceMethod yX9_mayBe, Cond.selects RX9 yX9_mayBe yX9_mayBe, Cond.code yX9_mayBe cX9_mayBe 7 (some .boolean), Cond.methodLink RX9 211 yX9_climbs, Cond.instanceMethod yX9_climbs, Cond.selects RX9 yX9_climbs yX9_climbs]
def wsX9_finds_r3 : List Cond := [Cond.code yX9_climbs cX9_climbs 9 (some .int), Cond.methodLink RX9 199 yX9_worthOf, Cond.instanceMethod yX9_worthOf, Cond.selects RX9 yX9_worthOf yX9_worthOf, Cond.code yX9_worthOf cX9_worthOf 5 (some .int), Cond.methodLink RX9 86 yX9_worth, Cond.static yX9_worth, Cond.code yX9_worth cX9_worth 4 (some .int)]
def wsX9_finds : List Cond := .code yX9_finds cX9_finds 4 (some .int) :: ((wsX9_finds_r1 ++ (wsX9_finds_r2 ++ wsX9_finds_r3)) ++ wsX90)
def wsX9_find_r1 : List Cond := [Cond.fieldLink RX9 196 "HiddenWorksModel" "steps" "I", Cond.fieldLink RX9 37 "HiddenWorksModel" "hidden" "[I", Cond.methodLink RX9 162 yX9_isTask, Cond.instanceMethod yX9_isTask, Cond.selects RX9 yX9_isTask yX9_isTask, Cond.initialized RX9, Cond.code yX9_isTask cX9_isTask 2 (some .boolean), Cond.fieldLink RX9 152 "HiddenWorksModel" "tasks" "I", Cond.methodLink RX9 83 yX9_in, Cond.static yX9_in, Cond.code yX9_in cX9_in 3 (some .boolean), Cond.methodLink RX9 214 yX9_finds, Cond.instanceMethod yX9_finds, Cond.selects RX9 yX9_finds yX9_finds, Cond.code yX9_finds cX9_finds 4 (some .int), Cond.methodLink RX9 205 yX9_countsRow, Cond.instanceMethod yX9_countsRow, Cond.selects RX9 yX9_countsRow yX9_countsRow, Cond.code yX9_countsRow cX9_countsRow 4 (some .int), Cond.fieldLink RX9 31 "HiddenWorksModel" "letters" "[I", Cond.methodLink RX9 184 yX9_more, Cond.instanceMethod yX9_more, Cond.selects RX9 yX9_more yX9_more, Cond.code yX9_more cX9_more 5 (some .int)]
def wsX9_find_r2 : List Cond := [Cond.fieldLink RX9 34 "HiddenWorksModel" "clauses" "[I", Cond.fieldLink RX9 46 "HiddenWorksModel" "plain" "[I", Cond.fieldLink RX9 49 "HiddenWorksModel" "against" "[I", Cond.methodLink RX9 178 yX9_doesSolve, Cond.instanceMethod yX9_doesSolve, Cond.selects RX9 yX9_doesSolve yX9_doesSolve, Cond.code yX9_doesSolve cX9_doesSolve 3 (some .boolean), Cond.methodLink RX9 171 yX9_firstBroken, Cond.instanceMethod yX9_firstBroken, Cond.selects RX9 yX9_firstBroken yX9_firstBroken, Cond.code yX9_firstBroken cX9_firstBroken 4 (some .int), Cond.fieldLink RX9 28 "HiddenWorksModel" "kind" "[I", Cond.methodLink RX9 165 yX9_is, Cond.instanceMethod yX9_is, Cond.selects RX9 yX9_is yX9_is, Cond.code yX9_is cX9_is 3 (some .int), Cond.methodLink RX9 159 yX9_ones, Cond.static yX9_ones, Cond.code yX9_ones cX9_ones 3 (some .int), Cond.methodLink RX9 168 yX9_wide, Cond.instanceMethod yX9_wide, Cond.selects RX9 yX9_wide yX9_wide, Cond.code yX9_wide cX9_wide 2 (some .int), Cond.methodLink RX9 79 yX9_holds]
def wsX9_find_r3 : List Cond := [Cond.static yX9_holds, Cond.code yX9_holds cX9_holds 3 (some .boolean), Cond.methodLink RX9 208 yX9_searches, Cond.instanceMethod yX9_searches, Cond.selects RX9 yX9_searches yX9_searches, Cond.code yX9_searches cX9_searches 8 (some .int), Cond.methodLink RX9 202 yX9_mayBe, Cond.instanceMethod yX9_mayBe, Cond.selects RX9 yX9_mayBe yX9_mayBe, Cond.code yX9_mayBe cX9_mayBe 7 (some .boolean), Cond.methodLink RX9 211 yX9_climbs, Cond.instanceMethod yX9_climbs, Cond.selects RX9 yX9_climbs yX9_climbs, Cond.code yX9_climbs cX9_climbs 9 (some .int), Cond.methodLink RX9 199 yX9_worthOf, Cond.instanceMethod yX9_worthOf, Cond.selects RX9 yX9_worthOf yX9_worthOf, Cond.code yX9_worthOf cX9_worthOf 5 (some .int), Cond.methodLink RX9 86 yX9_worth, Cond.static yX9_worth, Cond.code yX9_worth cX9_worth 4 (some .int)]
def wsX9_find : List Cond := .code yX9_find cX9_find 6 (some .int) :: ((wsX9_find_r1 ++ (wsX9_find_r2 ++ wsX9_find_r3)) ++ wsX90)
def wsX9_areSeeds : List Cond := .code yX9_areSeeds cX9_areSeeds 2 (some .boolean) :: ([.constant RX9 151 (99999), .constant RX9 217 (100000), .methodLink RX9 83 yX9_in, .static yX9_in, .initialized RX9, .code yX9_in cX9_in 3 (some .boolean)])
def wsX9_heap_r1 : List Cond := [Cond.fieldLink RX9 37 "HiddenWorksModel" "hidden" "[I", Cond.methodLink RX9 121 yX9_isRecipe, Cond.instanceMethod yX9_isRecipe, Cond.selects RX9 yX9_isRecipe yX9_isRecipe, Cond.initialized RX9, Cond.code yX9_isRecipe cX9_isRecipe 2 (some .boolean), Cond.fieldLink RX9 114 "HiddenWorksModel" "recipes" "I", Cond.methodLink RX9 83 yX9_in, Cond.static yX9_in, Cond.code yX9_in cX9_in 3 (some .boolean), Cond.methodLink RX9 218 yX9_areSeeds, Cond.static yX9_areSeeds, Cond.code yX9_areSeeds cX9_areSeeds 2 (some .boolean), Cond.constant RX9 151 (99999), Cond.constant RX9 217 (100000), Cond.methodLink RX9 155 yX9_makes, Cond.instanceMethod yX9_makes, Cond.selects RX9 yX9_makes yX9_makes, Cond.code yX9_makes cX9_makes 11 none, Cond.fieldLink RX9 127 "HiddenWorksModel" "lot" "J", Cond.fieldLink RX9 28 "HiddenWorksModel" "kind" "[I", Cond.fieldLink RX9 13 "HiddenWorksModel" "rKind" "[I", Cond.fieldLink RX9 31 "HiddenWorksModel" "letters" "[I", Cond.fieldLink RX9 16 "HiddenWorksModel" "rLetters" "[I"]
def wsX9_heap_r2 : List Cond := [Cond.fieldLink RX9 34 "HiddenWorksModel" "clauses" "[I", Cond.fieldLink RX9 19 "HiddenWorksModel" "rClauses" "[I", Cond.fieldLink RX9 40 "HiddenWorksModel" "recipeOf" "[I", Cond.fieldLink RX9 43 "HiddenWorksModel" "seedOf" "[I", Cond.fieldLink RX9 22 "HiddenWorksModel" "rWide" "[I", Cond.fieldLink RX9 73 "HiddenWorksModel" "chosen" "[I", Cond.fieldLink RX9 46 "HiddenWorksModel" "plain" "[I", Cond.fieldLink RX9 49 "HiddenWorksModel" "against" "[I", Cond.methodLink RX9 137 yX9_draw, Cond.instanceMethod yX9_draw, Cond.selects RX9 yX9_draw yX9_draw, Cond.code yX9_draw cX9_draw 2 (some .int), Cond.constantLong RX9 131 (48271), Cond.constantLong RX9 133 (2147483647), Cond.constantLong RX9 135 (16), Cond.methodLink RX9 144 yX9_choose, Cond.instanceMethod yX9_choose, Cond.selects RX9 yX9_choose yX9_choose, Cond.code yX9_choose cX9_choose 7 none, Cond.methodLink RX9 148 yX9_truths, Cond.instanceMethod yX9_truths, Cond.selects RX9 yX9_truths yX9_truths, Cond.code yX9_truths cX9_truths 7 (some .int), Cond.fieldLink RX9 25 "HiddenWorksModel" "rWeight" "[I"]
def wsX9_heap_r3 : List Cond := [Cond.methodLink RX9 141 yX9_all, Cond.instanceMethod yX9_all, Cond.selects RX9 yX9_all yX9_all, Cond.code yX9_all cX9_all 4 (some .int), Cond.methodLink RX9 124 yX9_ways, Cond.static yX9_ways, Cond.code yX9_ways cX9_ways 2 (some .int), Cond.methodLink RX9 181 yX9_answersOf, Cond.instanceMethod yX9_answersOf, Cond.selects RX9 yX9_answersOf yX9_answersOf, Cond.code yX9_answersOf cX9_answersOf 6 (some .int), Cond.methodLink RX9 178 yX9_doesSolve, Cond.instanceMethod yX9_doesSolve, Cond.selects RX9 yX9_doesSolve yX9_doesSolve, Cond.code yX9_doesSolve cX9_doesSolve 3 (some .boolean), Cond.methodLink RX9 171 yX9_firstBroken, Cond.instanceMethod yX9_firstBroken, Cond.selects RX9 yX9_firstBroken yX9_firstBroken, Cond.code yX9_firstBroken cX9_firstBroken 4 (some .int), Cond.methodLink RX9 165 yX9_is, Cond.instanceMethod yX9_is, Cond.selects RX9 yX9_is yX9_is, Cond.code yX9_is cX9_is 3 (some .int), Cond.methodLink RX9 159 yX9_ones]
def wsX9_heap_r4 : List Cond := [Cond.static yX9_ones, Cond.code yX9_ones cX9_ones 3 (some .int), Cond.methodLink RX9 168 yX9_wide, Cond.instanceMethod yX9_wide, Cond.selects RX9 yX9_wide yX9_wide, Cond.code yX9_wide cX9_wide 2 (some .int), Cond.methodLink RX9 79 yX9_holds, Cond.static yX9_holds, Cond.code yX9_holds cX9_holds 3 (some .boolean), Cond.methodLink RX9 214 yX9_finds, Cond.instanceMethod yX9_finds, Cond.selects RX9 yX9_finds yX9_finds, Cond.code yX9_finds cX9_finds 4 (some .int), Cond.fieldLink RX9 196 "HiddenWorksModel" "steps" "I", Cond.methodLink RX9 205 yX9_countsRow, Cond.instanceMethod yX9_countsRow, Cond.selects RX9 yX9_countsRow yX9_countsRow, Cond.code yX9_countsRow cX9_countsRow 4 (some .int), Cond.methodLink RX9 184 yX9_more, Cond.instanceMethod yX9_more, Cond.selects RX9 yX9_more yX9_more, Cond.code yX9_more cX9_more 5 (some .int), Cond.methodLink RX9 208 yX9_searches, Cond.instanceMethod yX9_searches]
def wsX9_heap_r5 : List Cond := [Cond.selects RX9 yX9_searches yX9_searches, Cond.code yX9_searches cX9_searches 8 (some .int), Cond.methodLink RX9 202 yX9_mayBe, Cond.instanceMethod yX9_mayBe, Cond.selects RX9 yX9_mayBe yX9_mayBe, Cond.code yX9_mayBe cX9_mayBe 7 (some .boolean), Cond.methodLink RX9 211 yX9_climbs, Cond.instanceMethod yX9_climbs, Cond.selects RX9 yX9_climbs yX9_climbs, Cond.code yX9_climbs cX9_climbs 9 (some .int), Cond.methodLink RX9 199 yX9_worthOf, Cond.instanceMethod yX9_worthOf, Cond.selects RX9 yX9_worthOf yX9_worthOf, Cond.code yX9_worthOf cX9_worthOf 5 (some .int), Cond.methodLink RX9 86 yX9_worth, Cond.static yX9_worth, Cond.code yX9_worth cX9_worth 4 (some .int)]
def wsX9_heap : List Cond := .code yX9_heap cX9_heap 10 (some .int) :: ((wsX9_heap_r1 ++ (wsX9_heap_r2 ++ (wsX9_heap_r3 ++ (wsX9_heap_r4 ++ wsX9_heap_r5)))) ++ wsX90)
def wsX9_signOf_r1 : List Cond := [Cond.fieldLink RX9 31 "HiddenWorksModel" "letters" "[I", Cond.methodLink RX9 155 yX9_makes, Cond.instanceMethod yX9_makes, Cond.selects RX9 yX9_makes yX9_makes, Cond.initialized RX9, Cond.code yX9_makes cX9_makes 11 none, Cond.fieldLink RX9 127 "HiddenWorksModel" "lot" "J", Cond.fieldLink RX9 28 "HiddenWorksModel" "kind" "[I", Cond.fieldLink RX9 13 "HiddenWorksModel" "rKind" "[I", Cond.fieldLink RX9 16 "HiddenWorksModel" "rLetters" "[I", Cond.fieldLink RX9 34 "HiddenWorksModel" "clauses" "[I", Cond.fieldLink RX9 19 "HiddenWorksModel" "rClauses" "[I", Cond.fieldLink RX9 40 "HiddenWorksModel" "recipeOf" "[I", Cond.fieldLink RX9 43 "HiddenWorksModel" "seedOf" "[I", Cond.fieldLink RX9 37 "HiddenWorksModel" "hidden" "[I", Cond.fieldLink RX9 22 "HiddenWorksModel" "rWide" "[I", Cond.fieldLink RX9 73 "HiddenWorksModel" "chosen" "[I", Cond.fieldLink RX9 46 "HiddenWorksModel" "plain" "[I", Cond.fieldLink RX9 49 "HiddenWorksModel" "against" "[I", Cond.methodLink RX9 137 yX9_draw, Cond.instanceMethod yX9_draw, Cond.selects RX9 yX9_draw yX9_draw, Cond.code yX9_draw cX9_draw 2 (some .int), Cond.constantLong RX9 131 (48271)]
def wsX9_signOf_r2 : List Cond := [Cond.constantLong RX9 133 (2147483647), Cond.constantLong RX9 135 (16), Cond.methodLink RX9 144 yX9_choose, Cond.instanceMethod yX9_choose, Cond.selects RX9 yX9_choose yX9_choose, Cond.code yX9_choose cX9_choose 7 none, Cond.methodLink RX9 148 yX9_truths, Cond.instanceMethod yX9_truths, Cond.selects RX9 yX9_truths yX9_truths, Cond.code yX9_truths cX9_truths 7 (some .int), Cond.fieldLink RX9 25 "HiddenWorksModel" "rWeight" "[I", Cond.methodLink RX9 141 yX9_all, Cond.instanceMethod yX9_all, Cond.selects RX9 yX9_all yX9_all, Cond.code yX9_all cX9_all 4 (some .int), Cond.methodLink RX9 124 yX9_ways, Cond.static yX9_ways, Cond.code yX9_ways cX9_ways 2 (some .int), Cond.methodLink RX9 184 yX9_more, Cond.instanceMethod yX9_more, Cond.selects RX9 yX9_more yX9_more, Cond.code yX9_more cX9_more 5 (some .int)]
def wsX9_signOf : List Cond := .code yX9_signOf cX9_signOf 5 (some .int) :: ((wsX9_signOf_r1 ++ wsX9_signOf_r2) ++ wsX90)
def wsX9_rightBy : List Cond := .code yX9_rightBy cX9_rightBy 5 (some .int) :: ([.fieldLink RX9 76 "HiddenWorksModel" "signs" "[I"] ++ wsX90)
def wsX9_apart_r1 : List Cond := [Cond.fieldLink RX9 76 "HiddenWorksModel" "signs" "[I", Cond.methodLink RX9 121 yX9_isRecipe, Cond.instanceMethod yX9_isRecipe, Cond.selects RX9 yX9_isRecipe yX9_isRecipe, Cond.initialized RX9, Cond.code yX9_isRecipe cX9_isRecipe 2 (some .boolean), Cond.fieldLink RX9 114 "HiddenWorksModel" "recipes" "I", Cond.methodLink RX9 83 yX9_in, Cond.static yX9_in, Cond.code yX9_in cX9_in 3 (some .boolean), Cond.methodLink RX9 218 yX9_areSeeds, Cond.static yX9_areSeeds, Cond.code yX9_areSeeds cX9_areSeeds 2 (some .boolean), Cond.constant RX9 151 (99999), Cond.constant RX9 217 (100000), Cond.methodLink RX9 221 yX9_signOf, Cond.instanceMethod yX9_signOf, Cond.selects RX9 yX9_signOf yX9_signOf, Cond.code yX9_signOf cX9_signOf 5 (some .int), Cond.fieldLink RX9 31 "HiddenWorksModel" "letters" "[I", Cond.methodLink RX9 155 yX9_makes, Cond.instanceMethod yX9_makes, Cond.selects RX9 yX9_makes yX9_makes, Cond.code yX9_makes cX9_makes 11 none]
def wsX9_apart_r2 : List Cond := [Cond.fieldLink RX9 127 "HiddenWorksModel" "lot" "J", Cond.fieldLink RX9 28 "HiddenWorksModel" "kind" "[I", Cond.fieldLink RX9 13 "HiddenWorksModel" "rKind" "[I", Cond.fieldLink RX9 16 "HiddenWorksModel" "rLetters" "[I", Cond.fieldLink RX9 34 "HiddenWorksModel" "clauses" "[I", Cond.fieldLink RX9 19 "HiddenWorksModel" "rClauses" "[I", Cond.fieldLink RX9 40 "HiddenWorksModel" "recipeOf" "[I", Cond.fieldLink RX9 43 "HiddenWorksModel" "seedOf" "[I", Cond.fieldLink RX9 37 "HiddenWorksModel" "hidden" "[I", Cond.fieldLink RX9 22 "HiddenWorksModel" "rWide" "[I", Cond.fieldLink RX9 73 "HiddenWorksModel" "chosen" "[I", Cond.fieldLink RX9 46 "HiddenWorksModel" "plain" "[I", Cond.fieldLink RX9 49 "HiddenWorksModel" "against" "[I", Cond.methodLink RX9 137 yX9_draw, Cond.instanceMethod yX9_draw, Cond.selects RX9 yX9_draw yX9_draw, Cond.code yX9_draw cX9_draw 2 (some .int), Cond.constantLong RX9 131 (48271), Cond.constantLong RX9 133 (2147483647), Cond.constantLong RX9 135 (16), Cond.methodLink RX9 144 yX9_choose, Cond.instanceMethod yX9_choose, Cond.selects RX9 yX9_choose yX9_choose, Cond.code yX9_choose cX9_choose 7 none]
def wsX9_apart_r3 : List Cond := [Cond.methodLink RX9 148 yX9_truths, Cond.instanceMethod yX9_truths, Cond.selects RX9 yX9_truths yX9_truths, Cond.code yX9_truths cX9_truths 7 (some .int), Cond.fieldLink RX9 25 "HiddenWorksModel" "rWeight" "[I", Cond.methodLink RX9 141 yX9_all, Cond.instanceMethod yX9_all, Cond.selects RX9 yX9_all yX9_all, Cond.code yX9_all cX9_all 4 (some .int), Cond.methodLink RX9 124 yX9_ways, Cond.static yX9_ways, Cond.code yX9_ways cX9_ways 2 (some .int), Cond.methodLink RX9 184 yX9_more, Cond.instanceMethod yX9_more, Cond.selects RX9 yX9_more yX9_more, Cond.code yX9_more cX9_more 5 (some .int), Cond.methodLink RX9 224 yX9_rightBy, Cond.instanceMethod yX9_rightBy, Cond.selects RX9 yX9_rightBy yX9_rightBy, Cond.code yX9_rightBy cX9_rightBy 5 (some .int)]
def wsX9_apart : List Cond := .code yX9_apart cX9_apart 10 (some .int) :: ((wsX9_apart_r1 ++ (wsX9_apart_r2 ++ wsX9_apart_r3)) ++ wsX90)
def wsX9_moved : List Cond := .code yX9_moved cX9_moved 6 (some .int) :: ([.fieldLink RX9 70 "HiddenWorksModel" "cells" "[I"] ++ wsX90)
def wsX9_twin : List Cond := .code yX9_twin cX9_twin 11 (some .int) :: ([.fieldLink RX9 64 "HiddenWorksModel" "sheetSort" "[I", .fieldLink RX9 31 "HiddenWorksModel" "letters" "[I", .fieldLink RX9 67 "HiddenWorksModel" "sheetSize" "[I", .fieldLink RX9 70 "HiddenWorksModel" "cells" "[I", .fieldLink RX9 152 "HiddenWorksModel" "tasks" "I", .fieldLink RX9 28 "HiddenWorksModel" "kind" "[I", .fieldLink RX9 34 "HiddenWorksModel" "clauses" "[I", .fieldLink RX9 37 "HiddenWorksModel" "hidden" "[I", .fieldLink RX9 40 "HiddenWorksModel" "recipeOf" "[I", .fieldLink RX9 43 "HiddenWorksModel" "seedOf" "[I", .fieldLink RX9 46 "HiddenWorksModel" "plain" "[I", .fieldLink RX9 49 "HiddenWorksModel" "against" "[I", .methodLink RX9 162 yX9_isTask, .instanceMethod yX9_isTask, .selects RX9 yX9_isTask yX9_isTask, .initialized RX9, .code yX9_isTask cX9_isTask 2 (some .boolean), .methodLink RX9 83 yX9_in, .static yX9_in, .code yX9_in cX9_in 3 (some .boolean), .methodLink RX9 227 yX9_moved, .instanceMethod yX9_moved, .selects RX9 yX9_moved yX9_moved, .code yX9_moved cX9_moved 6 (some .int)] ++ wsX90)
def wsX9_claim : List Cond := .code yX9_claim cX9_claim 3 (some .int) :: ([.fieldLink RX9 230 "HiddenWorksModel" "claims" "I", .fieldLink RX9 52 "HiddenWorksModel" "claimTask" "[I", .fieldLink RX9 55 "HiddenWorksModel" "claimSteps" "[I", .fieldLink RX9 58 "HiddenWorksModel" "claimState" "[I", .fieldLink RX9 61 "HiddenWorksModel" "claimBy" "[I", .methodLink RX9 162 yX9_isTask, .instanceMethod yX9_isTask, .selects RX9 yX9_isTask yX9_isTask, .initialized RX9, .code yX9_isTask cX9_isTask 2 (some .boolean), .fieldLink RX9 152 "HiddenWorksModel" "tasks" "I", .methodLink RX9 83 yX9_in, .static yX9_in, .code yX9_in cX9_in 3 (some .boolean)] ++ wsX90)
def wsX9_isClaim : List Cond := .code yX9_isClaim cX9_isClaim 2 (some .boolean) :: ([.fieldLink RX9 230 "HiddenWorksModel" "claims" "I", .methodLink RX9 83 yX9_in, .static yX9_in, .initialized RX9, .code yX9_in cX9_in 3 (some .boolean)] ++ wsX90)
def wsX9_tries_r1 : List Cond := [Cond.fieldLink RX9 58 "HiddenWorksModel" "claimState" "[I", Cond.fieldLink RX9 52 "HiddenWorksModel" "claimTask" "[I", Cond.fieldLink RX9 55 "HiddenWorksModel" "claimSteps" "[I", Cond.fieldLink RX9 196 "HiddenWorksModel" "steps" "I", Cond.fieldLink RX9 61 "HiddenWorksModel" "claimBy" "[I", Cond.methodLink RX9 233 yX9_isClaim, Cond.instanceMethod yX9_isClaim, Cond.selects RX9 yX9_isClaim yX9_isClaim, Cond.initialized RX9, Cond.code yX9_isClaim cX9_isClaim 2 (some .boolean), Cond.fieldLink RX9 230 "HiddenWorksModel" "claims" "I", Cond.methodLink RX9 83 yX9_in, Cond.static yX9_in, Cond.code yX9_in cX9_in 3 (some .boolean), Cond.methodLink RX9 214 yX9_finds, Cond.instanceMethod yX9_finds, Cond.selects RX9 yX9_finds yX9_finds, Cond.code yX9_finds cX9_finds 4 (some .int), Cond.methodLink RX9 205 yX9_countsRow, Cond.instanceMethod yX9_countsRow, Cond.selects RX9 yX9_countsRow yX9_countsRow, Cond.code yX9_countsRow cX9_countsRow 4 (some .int), Cond.fieldLink RX9 31 "HiddenWorksModel" "letters" "[I", Cond.methodLink RX9 184 yX9_more]
def wsX9_tries_r2 : List Cond := [Cond.instanceMethod yX9_more, Cond.selects RX9 yX9_more yX9_more, Cond.code yX9_more cX9_more 5 (some .int), Cond.fieldLink RX9 34 "HiddenWorksModel" "clauses" "[I", Cond.fieldLink RX9 46 "HiddenWorksModel" "plain" "[I", Cond.fieldLink RX9 49 "HiddenWorksModel" "against" "[I", Cond.methodLink RX9 178 yX9_doesSolve, Cond.instanceMethod yX9_doesSolve, Cond.selects RX9 yX9_doesSolve yX9_doesSolve, Cond.code yX9_doesSolve cX9_doesSolve 3 (some .boolean), Cond.methodLink RX9 171 yX9_firstBroken, Cond.instanceMethod yX9_firstBroken, Cond.selects RX9 yX9_firstBroken yX9_firstBroken, Cond.code yX9_firstBroken cX9_firstBroken 4 (some .int), Cond.fieldLink RX9 28 "HiddenWorksModel" "kind" "[I", Cond.methodLink RX9 165 yX9_is, Cond.instanceMethod yX9_is, Cond.selects RX9 yX9_is yX9_is, Cond.code yX9_is cX9_is 3 (some .int), Cond.methodLink RX9 159 yX9_ones, Cond.static yX9_ones, Cond.code yX9_ones cX9_ones 3 (some .int), Cond.methodLink RX9 168 yX9_wide, Cond.instanceMethod yX9_wide]
def wsX9_tries_r3 : List Cond := [Cond.selects RX9 yX9_wide yX9_wide, Cond.code yX9_wide cX9_wide 2 (some .int), Cond.methodLink RX9 79 yX9_holds, Cond.static yX9_holds, Cond.code yX9_holds cX9_holds 3 (some .boolean), Cond.methodLink RX9 208 yX9_searches, Cond.instanceMethod yX9_searches, Cond.selects RX9 yX9_searches yX9_searches, Cond.code yX9_searches cX9_searches 8 (some .int), Cond.methodLink RX9 202 yX9_mayBe, Cond.instanceMethod yX9_mayBe, Cond.selects RX9 yX9_mayBe yX9_mayBe, Cond.code yX9_mayBe cX9_mayBe 7 (some .boolean), Cond.methodLink RX9 211 yX9_climbs, Cond.instanceMethod yX9_climbs, Cond.selects RX9 yX9_climbs yX9_climbs, Cond.code yX9_climbs cX9_climbs 9 (some .int), Cond.methodLink RX9 199 yX9_worthOf, Cond.instanceMethod yX9_worthOf, Cond.selects RX9 yX9_worthOf yX9_worthOf, Cond.code yX9_worthOf cX9_worthOf 5 (some .int), Cond.methodLink RX9 86 yX9_worth, Cond.static yX9_worth, Cond.code yX9_worth cX9_worth 4 (some .int)]
def wsX9_tries : List Cond := .code yX9_tries cX9_tries 5 (some .int) :: ((wsX9_tries_r1 ++ (wsX9_tries_r2 ++ wsX9_tries_r3)) ++ wsX90)
def wsX9_claimTold : List Cond := .code yX9_claimTold cX9_claimTold 3 (some .int) :: ([.fieldLink RX9 52 "HiddenWorksModel" "claimTask" "[I", .fieldLink RX9 55 "HiddenWorksModel" "claimSteps" "[I", .fieldLink RX9 58 "HiddenWorksModel" "claimState" "[I", .fieldLink RX9 61 "HiddenWorksModel" "claimBy" "[I", .methodLink RX9 233 yX9_isClaim, .instanceMethod yX9_isClaim, .selects RX9 yX9_isClaim yX9_isClaim, .initialized RX9, .code yX9_isClaim cX9_isClaim 2 (some .boolean), .fieldLink RX9 230 "HiddenWorksModel" "claims" "I", .methodLink RX9 83 yX9_in, .static yX9_in, .code yX9_in cX9_in 3 (some .boolean)] ++ wsX90)
def wsX9_count : List Cond := .code yX9_count cX9_count 2 (some .int) :: ([.fieldLink RX9 152 "HiddenWorksModel" "tasks" "I", .fieldLink RX9 114 "HiddenWorksModel" "recipes" "I", .fieldLink RX9 230 "HiddenWorksModel" "claims" "I", .fieldLink RX9 90 "HiddenWorksModel" "taped" "I"] ++ wsX90)
def wsX9_image : List Cond := .code yX9_image cX9_image 1 (some .int) :: ([.fieldLink RX9 236 "HiddenWorksModel" "hasImage" "Z", .fieldLink RX9 152 "HiddenWorksModel" "tasks" "I", .fieldLink RX9 240 "HiddenWorksModel" "imaged" "I"] ++ wsX90)
def wsX9_back : List Cond := .code yX9_back cX9_back 3 (some .int) :: ([.fieldLink RX9 236 "HiddenWorksModel" "hasImage" "Z", .fieldLink RX9 240 "HiddenWorksModel" "imaged" "I", .fieldLink RX9 152 "HiddenWorksModel" "tasks" "I", .fieldLink RX9 230 "HiddenWorksModel" "claims" "I", .fieldLink RX9 52 "HiddenWorksModel" "claimTask" "[I", .fieldLink RX9 55 "HiddenWorksModel" "claimSteps" "[I", .fieldLink RX9 58 "HiddenWorksModel" "claimState" "[I", .fieldLink RX9 61 "HiddenWorksModel" "claimBy" "[I"] ++ wsX90)
def wsX9_sheet : List Cond := .code yX9_sheet cX9_sheet 5 (some .int) :: ([.fieldLink RX9 64 "HiddenWorksModel" "sheetSort" "[I", .fieldLink RX9 67 "HiddenWorksModel" "sheetSize" "[I", .fieldLink RX9 70 "HiddenWorksModel" "cells" "[I", .methodLink RX9 83 yX9_in, .static yX9_in, .initialized RX9, .code yX9_in cX9_in 3 (some .boolean)] ++ wsX90)
def wsX9_cell : List Cond := .code yX9_cell cX9_cell 4 (some .int) :: ([.fieldLink RX9 64 "HiddenWorksModel" "sheetSort" "[I", .fieldLink RX9 67 "HiddenWorksModel" "sheetSize" "[I", .fieldLink RX9 70 "HiddenWorksModel" "cells" "[I", .methodLink RX9 83 yX9_in, .static yX9_in, .initialized RX9, .code yX9_in cX9_in 3 (some .boolean)] ++ wsX90)
def wsX9_copy : List Cond := .code yX9_copy cX9_copy 10 (some .int) :: ([.fieldLink RX9 64 "HiddenWorksModel" "sheetSort" "[I", .fieldLink RX9 67 "HiddenWorksModel" "sheetSize" "[I", .fieldLink RX9 70 "HiddenWorksModel" "cells" "[I", .methodLink RX9 83 yX9_in, .static yX9_in, .initialized RX9, .code yX9_in cX9_in 3 (some .boolean)] ++ wsX90)
def wsX9_claims : List Cond := .code yX9_claims cX9_claims 9 (some .int) :: ([.fieldLink RX9 64 "HiddenWorksModel" "sheetSort" "[I", .fieldLink RX9 67 "HiddenWorksModel" "sheetSize" "[I", .fieldLink RX9 70 "HiddenWorksModel" "cells" "[I", .methodLink RX9 83 yX9_in, .static yX9_in, .initialized RX9, .code yX9_in cX9_in 3 (some .boolean), .methodLink RX9 243 yX9_claim, .instanceMethod yX9_claim, .selects RX9 yX9_claim yX9_claim, .code yX9_claim cX9_claim 3 (some .int), .fieldLink RX9 230 "HiddenWorksModel" "claims" "I", .fieldLink RX9 52 "HiddenWorksModel" "claimTask" "[I", .fieldLink RX9 55 "HiddenWorksModel" "claimSteps" "[I", .fieldLink RX9 58 "HiddenWorksModel" "claimState" "[I", .fieldLink RX9 61 "HiddenWorksModel" "claimBy" "[I", .methodLink RX9 162 yX9_isTask, .instanceMethod yX9_isTask, .selects RX9 yX9_isTask yX9_isTask, .code yX9_isTask cX9_isTask 2 (some .boolean), .fieldLink RX9 152 "HiddenWorksModel" "tasks" "I"] ++ wsX90)
def wsX9_isUnder : List Cond := .code yX9_isUnder cX9_isUnder 2 (some .boolean) :: ([])
def wsX9_taken : List Cond := .code yX9_taken cX9_taken 4 (some .int) :: ([.fieldLink RX9 28 "HiddenWorksModel" "kind" "[I", .fieldLink RX9 22 "HiddenWorksModel" "rWide" "[I", .fieldLink RX9 55 "HiddenWorksModel" "claimSteps" "[I", .methodLink RX9 83 yX9_in, .static yX9_in, .initialized RX9, .code yX9_in cX9_in 3 (some .boolean), .methodLink RX9 246 yX9_count, .instanceMethod yX9_count, .selects RX9 yX9_count yX9_count, .code yX9_count cX9_count 2 (some .int), .fieldLink RX9 152 "HiddenWorksModel" "tasks" "I", .fieldLink RX9 114 "HiddenWorksModel" "recipes" "I", .fieldLink RX9 230 "HiddenWorksModel" "claims" "I", .fieldLink RX9 90 "HiddenWorksModel" "taped" "I", .methodLink RX9 249 yX9_isUnder, .static yX9_isUnder, .code yX9_isUnder cX9_isUnder 2 (some .boolean)] ++ wsX90)
def wsJ9_abs_0f7a4 : List Cond := .code yJ9_abs_0f7a4 cJ9_abs_0f7a4 1 (some .int) :: ([])
def wsJ9_min_7cf53 : List Cond := .code yJ9_min_7cf53 cJ9_min_7cf53 2 (some .int) :: ([])
theorem inJ6 : ∀ w ∈ wsJ60, w ∈ lw_tbl := by decide +kernel
theorem inJ9 : ∀ w ∈ wsJ90, w ∈ lw_tbl := by decide +kernel
theorem inJ10 : ∀ w ∈ wsJ100, w ∈ lw_tbl := by decide +kernel
theorem inJ7 : ∀ w ∈ wsJ70, w ∈ lw_tbl := by decide +kernel
theorem dX0_init_0 : decode cX0_init 0 = .ok (.aload_n 0, 1) := by decide +kernel
theorem dX0_init_1 : decode cX0_init 1 = .ok (.invokespecial 3, 3) := by decide +kernel
theorem dX0_init_4 : decode cX0_init 4 = .ok (.return_, 1) := by decide +kernel
theorem dX0_begin_0 : decode cX0_begin 0 = .ok (.aload_n 0, 1) := by decide +kernel
theorem dX0_begin_1 : decode cX0_begin 1 = .ok (.iload_n 1, 1) := by decide +kernel
theorem dX0_begin_2 : decode cX0_begin 2 = .ok (.putfield 9, 3) := by decide +kernel
theorem dX0_begin_5 : decode cX0_begin 5 = .ok (.aload_n 0, 1) := by decide +kernel
theorem dX0_begin_6 : decode cX0_begin 6 = .ok (.iload_n 2, 1) := by decide +kernel
theorem dX0_begin_7 : decode cX0_begin 7 = .ok (.putfield 15, 3) := by decide +kernel
theorem dX0_begin_10 : decode cX0_begin 10 = .ok (.aload_n 0, 1) := by decide +kernel
theorem dX0_begin_11 : decode cX0_begin 11 = .ok (.iconst 0, 1) := by decide +kernel
theorem dX0_begin_12 : decode cX0_begin 12 = .ok (.putfield 18, 3) := by decide +kernel
theorem dX0_begin_15 : decode cX0_begin 15 = .ok (.aload_n 0, 1) := by decide +kernel
theorem dX0_begin_16 : decode cX0_begin 16 = .ok (.iconst (-1), 1) := by decide +kernel
theorem dX0_begin_17 : decode cX0_begin 17 = .ok (.putfield 21, 3) := by decide +kernel
theorem dX0_begin_20 : decode cX0_begin 20 = .ok (.return_, 1) := by decide +kernel
theorem dX0_worsen_0 : decode cX0_worsen 0 = .ok (.iload_n 1, 1) := by decide +kernel
theorem dX0_worsen_1 : decode cX0_worsen 1 = .ok (.aload_n 0, 1) := by decide +kernel
theorem dX0_worsen_2 : decode cX0_worsen 2 = .ok (.getfield 18, 3) := by decide +kernel
theorem dX0_worsen_5 : decode cX0_worsen 5 = .ok (.if_icmp .le 13, 3) := by decide +kernel
theorem dX0_worsen_8 : decode cX0_worsen 8 = .ok (.aload_n 0, 1) := by decide +kernel
theorem dX0_worsen_9 : decode cX0_worsen 9 = .ok (.iload_n 1, 1) := by decide +kernel
theorem dX0_worsen_10 : decode cX0_worsen 10 = .ok (.putfield 18, 3) := by decide +kernel
theorem dX0_worsen_13 : decode cX0_worsen 13 = .ok (.aload_n 0, 1) := by decide +kernel
theorem dX0_worsen_14 : decode cX0_worsen 14 = .ok (.iload_n 2, 1) := by decide +kernel
theorem dX0_worsen_15 : decode cX0_worsen 15 = .ok (.putfield 21, 3) := by decide +kernel
theorem dX0_worsen_18 : decode cX0_worsen 18 = .ok (.return_, 1) := by decide +kernel
theorem dX0_become_0 : decode cX0_become 0 = .ok (.aload_n 0, 1) := by decide +kernel
theorem dX0_become_1 : decode cX0_become 1 = .ok (.aload_n 1, 1) := by decide +kernel
theorem dX0_become_2 : decode cX0_become 2 = .ok (.getfield 9, 3) := by decide +kernel
theorem dX0_become_5 : decode cX0_become 5 = .ok (.putfield 9, 3) := by decide +kernel
theorem dX0_become_8 : decode cX0_become 8 = .ok (.aload_n 0, 1) := by decide +kernel
theorem dX0_become_9 : decode cX0_become 9 = .ok (.aload_n 1, 1) := by decide +kernel
theorem dX0_become_10 : decode cX0_become 10 = .ok (.getfield 15, 3) := by decide +kernel
theorem dX0_become_13 : decode cX0_become 13 = .ok (.putfield 15, 3) := by decide +kernel
theorem dX0_become_16 : decode cX0_become 16 = .ok (.aload_n 0, 1) := by decide +kernel
theorem dX0_become_17 : decode cX0_become 17 = .ok (.aload_n 1, 1) := by decide +kernel
theorem dX0_become_18 : decode cX0_become 18 = .ok (.getfield 18, 3) := by decide +kernel
theorem dX0_become_21 : decode cX0_become 21 = .ok (.putfield 18, 3) := by decide +kernel
theorem dX0_become_24 : decode cX0_become 24 = .ok (.aload_n 0, 1) := by decide +kernel
theorem dX0_become_25 : decode cX0_become 25 = .ok (.aload_n 1, 1) := by decide +kernel
theorem dX0_become_26 : decode cX0_become 26 = .ok (.getfield 21, 3) := by decide +kernel
theorem dX0_become_29 : decode cX0_become 29 = .ok (.putfield 21, 3) := by decide +kernel
theorem dX0_become_32 : decode cX0_become 32 = .ok (.return_, 1) := by decide +kernel
theorem dX1_init_0 : decode cX1_init 0 = .ok (.aload_n 0, 1) := by decide +kernel
theorem dX1_init_1 : decode cX1_init 1 = .ok (.invokespecial 1, 3) := by decide +kernel
theorem dX1_init_4 : decode cX1_init 4 = .ok (.return_, 1) := by decide +kernel
set_option maxRecDepth 20000 in
theorem ggX1_seek_X7_countsRow : GoodIn wsX1_seek wsX7_countsRow := goodIn_r _ [11, 12, 13, 14, 15, 10, 16, 17, 18, 19, 84, 85, 86, 87, 88, 89, 90, 91] (by decide +kernel) (by decide +kernel)
set_option maxRecDepth 20000 in
theorem gX1_seek_X7_countsRow : GoodIn wsX1_seek (wsV RX1 16 RX7 yX7_countsRow wsX7_countsRow) := goodIn_app (goodIn_of _ (by decide +kernel)) ggX1_seek_X7_countsRow
set_option maxRecDepth 20000 in
theorem ggX1_seek_X1_climb : GoodIn wsX1_seek wsX1_climb := goodIn_r _ [24, 2, 1, 25, 26, 27, 10, 28, 29, 30, 31, 32, 17, 33, 34, 35, 36, 37, 38, 39, 40, 41, 18, 19, 42, 43, 44, 45, 46, 47, 48, 49, 50, 51, 52, 53, 54, 55, 56, 57, 58, 59, 23, 60, 61, 62, 63, 64, 65, 12, 66, 67, 68, 69, 70, 71, 72, 73, 82, 83, 84, 85, 86, 87, 88, 89, 90, 91] (by decide +kernel) (by decide +kernel)
set_option maxRecDepth 20000 in
theorem gX1_seek_X1_climb : GoodIn wsX1_seek (wsV RX1 28 RX1 yX1_climb wsX1_climb) := goodIn_app (goodIn_of _ (by decide +kernel)) ggX1_seek_X1_climb
set_option maxRecDepth 20000 in
theorem ggX1_seek_X1_search : GoodIn wsX1_seek wsX1_search := goodIn_r _ [77, 2, 61, 1, 78, 79, 80, 10, 81, 17, 18, 19, 33, 34, 35, 36, 37, 38, 39, 40, 41, 42, 43, 44, 45, 46, 47, 48, 49, 50, 51, 52, 53, 54, 55, 56, 82, 83, 84, 85, 86, 87, 88, 89, 90, 91] (by decide +kernel) (by decide +kernel)
set_option maxRecDepth 20000 in
theorem gX1_seek_X1_search : GoodIn wsX1_seek (wsV RX1 32 RX1 yX1_search wsX1_search) := goodIn_app (goodIn_of _ (by decide +kernel)) ggX1_seek_X1_search
theorem dX1_seek_0 : decode cX1_seek 0 = .ok (.aload_n 0, 1) := by decide +kernel
theorem dX1_seek_1 : decode cX1_seek 1 = .ok (.iconst (-1), 1) := by decide +kernel
theorem dX1_seek_2 : decode cX1_seek 2 = .ok (.putfield 7, 3) := by decide +kernel
theorem dX1_seek_5 : decode cX1_seek 5 = .ok (.aload_n 0, 1) := by decide +kernel
theorem dX1_seek_6 : decode cX1_seek 6 = .ok (.iconst 0, 1) := by decide +kernel
theorem dX1_seek_7 : decode cX1_seek 7 = .ok (.putfield 13, 3) := by decide +kernel
theorem dX1_seek_10 : decode cX1_seek 10 = .ok (.iload_n 2, 1) := by decide +kernel
theorem dX1_seek_11 : decode cX1_seek 11 = .ok (.tableswitch 65 0 2 #[25, 42, 52], 25) := by decide +kernel
theorem dX1_seek_36 : decode cX1_seek 36 = .ok (.aload_n 0, 1) := by decide +kernel
theorem dX1_seek_37 : decode cX1_seek 37 = .ok (.aload_n 1, 1) := by decide +kernel
theorem dX1_seek_38 : decode cX1_seek 38 = .ok (.aload_n 1, 1) := by decide +kernel
theorem dX1_seek_39 : decode cX1_seek 39 = .ok (.invokevirtual 16, 3) := by decide +kernel
theorem dX1_seek_42 : decode cX1_seek 42 = .ok (.iload_n 3, 1) := by decide +kernel
theorem dX1_seek_43 : decode cX1_seek 43 = .ok (.iconst 1, 1) := by decide +kernel
theorem dX1_seek_44 : decode cX1_seek 44 = .ok (.invokestatic 22, 3) := by decide +kernel
theorem dX1_seek_47 : decode cX1_seek 47 = .ok (.invokevirtual 28, 3) := by decide +kernel
theorem dX1_seek_50 : decode cX1_seek 50 = .ok (.goto 32, 3) := by decide +kernel
theorem dX1_seek_53 : decode cX1_seek 53 = .ok (.aload_n 0, 1) := by decide +kernel
theorem dX1_seek_54 : decode cX1_seek 54 = .ok (.aload_n 1, 1) := by decide +kernel
theorem dX1_seek_55 : decode cX1_seek 55 = .ok (.iconst 0, 1) := by decide +kernel
theorem dX1_seek_56 : decode cX1_seek 56 = .ok (.iload_n 3, 1) := by decide +kernel
theorem dX1_seek_57 : decode cX1_seek 57 = .ok (.invokevirtual 28, 3) := by decide +kernel
theorem dX1_seek_60 : decode cX1_seek 60 = .ok (.goto 22, 3) := by decide +kernel
theorem dX1_seek_63 : decode cX1_seek 63 = .ok (.aload_n 0, 1) := by decide +kernel
theorem dX1_seek_64 : decode cX1_seek 64 = .ok (.aload_n 1, 1) := by decide +kernel
theorem dX1_seek_65 : decode cX1_seek 65 = .ok (.aload_n 1, 1) := by decide +kernel
theorem dX1_seek_66 : decode cX1_seek 66 = .ok (.invokevirtual 16, 3) := by decide +kernel
theorem dX1_seek_69 : decode cX1_seek 69 = .ok (.iload_n 3, 1) := by decide +kernel
theorem dX1_seek_70 : decode cX1_seek 70 = .ok (.invokevirtual 28, 3) := by decide +kernel
theorem dX1_seek_73 : decode cX1_seek 73 = .ok (.goto 9, 3) := by decide +kernel
theorem dX1_seek_76 : decode cX1_seek 76 = .ok (.aload_n 0, 1) := by decide +kernel
theorem dX1_seek_77 : decode cX1_seek 77 = .ok (.aload_n 1, 1) := by decide +kernel
theorem dX1_seek_78 : decode cX1_seek 78 = .ok (.iload_n 3, 1) := by decide +kernel
theorem dX1_seek_79 : decode cX1_seek 79 = .ok (.invokevirtual 32, 3) := by decide +kernel
theorem dX1_seek_82 : decode cX1_seek 82 = .ok (.return_, 1) := by decide +kernel
theorem dX1_foundHidden_0 : decode cX1_foundHidden 0 = .ok (.aload_n 0, 1) := by decide +kernel
theorem dX1_foundHidden_1 : decode cX1_foundHidden 1 = .ok (.getfield 7, 3) := by decide +kernel
theorem dX1_foundHidden_4 : decode cX1_foundHidden 4 = .ok (.ifCond .lt 18, 3) := by decide +kernel
theorem dX1_foundHidden_7 : decode cX1_foundHidden 7 = .ok (.aload_n 0, 1) := by decide +kernel
theorem dX1_foundHidden_8 : decode cX1_foundHidden 8 = .ok (.getfield 7, 3) := by decide +kernel
theorem dX1_foundHidden_11 : decode cX1_foundHidden 11 = .ok (.aload_n 1, 1) := by decide +kernel
theorem dX1_foundHidden_12 : decode cX1_foundHidden 12 = .ok (.getfield 36, 3) := by decide +kernel
theorem dX1_foundHidden_15 : decode cX1_foundHidden 15 = .ok (.if_icmp .ne 7, 3) := by decide +kernel
theorem dX1_foundHidden_18 : decode cX1_foundHidden 18 = .ok (.iconst 1, 1) := by decide +kernel
theorem dX1_foundHidden_19 : decode cX1_foundHidden 19 = .ok (.goto 4, 3) := by decide +kernel
theorem dX1_foundHidden_22 : decode cX1_foundHidden 22 = .ok (.iconst 0, 1) := by decide +kernel
theorem dX1_foundHidden_23 : decode cX1_foundHidden 23 = .ok (.ireturn, 1) := by decide +kernel
set_option maxRecDepth 20000 in
theorem ggX1_climb_X7_isSolvedBy : GoodIn wsX1_climb wsX7_isSolvedBy := goodIn_r _ [7, 8, 9, 10, 6, 11, 12, 13, 14, 15, 16, 17, 18, 19, 20, 21, 22, 23, 24, 25, 26, 27, 28, 29, 30, 31, 32, 33, 34, 35, 36, 37, 38, 60, 61, 62, 63, 64, 65, 66, 67] (by decide +kernel) (by decide +kernel)
set_option maxRecDepth 20000 in
theorem gX1_climb_X7_isSolvedBy : GoodIn wsX1_climb (wsV RX1 39 RX7 yX7_isSolvedBy wsX7_isSolvedBy) := goodIn_app (goodIn_of _ (by decide +kernel)) ggX1_climb_X7_isSolvedBy
set_option maxRecDepth 20000 in
theorem ggX1_climb_X1_rowAfter : GoodIn wsX1_climb wsX1_rowAfter := goodIn_r _ [43, 1, 44, 45, 46, 47, 6, 48, 49, 50, 51, 52, 53, 12, 22, 23, 17, 31, 32, 33, 34, 24, 25, 26, 27, 28, 29, 30, 18, 19, 20, 21, 54, 55, 37, 56, 57, 36, 38, 58, 59, 60, 61, 62, 63, 64, 65, 66, 67] (by decide +kernel) (by decide +kernel)
set_option maxRecDepth 20000 in
theorem gX1_climb_X1_rowAfter : GoodIn wsX1_climb (wsV RX1 43 RX1 yX1_rowAfter wsX1_rowAfter) := goodIn_app (goodIn_of _ (by decide +kernel)) ggX1_climb_X1_rowAfter
theorem dX1_climb_0 : decode cX1_climb 0 = .ok (.iload_n 2, 1) := by decide +kernel
theorem dX1_climb_1 : decode cX1_climb 1 = .ok (.istore 4, 2) := by decide +kernel
theorem dX1_climb_3 : decode cX1_climb 3 = .ok (.iconst 1, 1) := by decide +kernel
theorem dX1_climb_4 : decode cX1_climb 4 = .ok (.istore 5, 2) := by decide +kernel
theorem dX1_climb_6 : decode cX1_climb 6 = .ok (.iload 5, 2) := by decide +kernel
theorem dX1_climb_8 : decode cX1_climb 8 = .ok (.iload_n 3, 1) := by decide +kernel
theorem dX1_climb_9 : decode cX1_climb 9 = .ok (.if_icmp .gt 40, 3) := by decide +kernel
theorem dX1_climb_12 : decode cX1_climb 12 = .ok (.aload_n 0, 1) := by decide +kernel
theorem dX1_climb_13 : decode cX1_climb 13 = .ok (.iload 5, 2) := by decide +kernel
theorem dX1_climb_15 : decode cX1_climb 15 = .ok (.putfield 13, 3) := by decide +kernel
theorem dX1_climb_18 : decode cX1_climb 18 = .ok (.aload_n 1, 1) := by decide +kernel
theorem dX1_climb_19 : decode cX1_climb 19 = .ok (.iload 4, 2) := by decide +kernel
theorem dX1_climb_21 : decode cX1_climb 21 = .ok (.invokevirtual 39, 3) := by decide +kernel
theorem dX1_climb_24 : decode cX1_climb 24 = .ok (.ifCond .eq 10, 3) := by decide +kernel
theorem dX1_climb_27 : decode cX1_climb 27 = .ok (.aload_n 0, 1) := by decide +kernel
theorem dX1_climb_28 : decode cX1_climb 28 = .ok (.iload 4, 2) := by decide +kernel
theorem dX1_climb_30 : decode cX1_climb 30 = .ok (.putfield 7, 3) := by decide +kernel
theorem dX1_climb_33 : decode cX1_climb 33 = .ok (.return_, 1) := by decide +kernel
theorem dX1_climb_34 : decode cX1_climb 34 = .ok (.aload_n 0, 1) := by decide +kernel
theorem dX1_climb_35 : decode cX1_climb 35 = .ok (.aload_n 1, 1) := by decide +kernel
theorem dX1_climb_36 : decode cX1_climb 36 = .ok (.iload 4, 2) := by decide +kernel
theorem dX1_climb_38 : decode cX1_climb 38 = .ok (.invokevirtual 43, 3) := by decide +kernel
theorem dX1_climb_41 : decode cX1_climb 41 = .ok (.istore 4, 2) := by decide +kernel
theorem dX1_climb_43 : decode cX1_climb 43 = .ok (.iinc 5 1, 3) := by decide +kernel
theorem dX1_climb_46 : decode cX1_climb 46 = .ok (.goto (-40), 3) := by decide +kernel
theorem dX1_climb_49 : decode cX1_climb 49 = .ok (.return_, 1) := by decide +kernel
set_option maxRecDepth 20000 in
theorem ggX1_rowAfter_X7_rows : GoodIn wsX1_rowAfter wsX7_rows := goodIn_r _ [7, 8, 41, 42, 43, 44, 45, 46, 47, 48] (by decide +kernel) (by decide +kernel)
set_option maxRecDepth 20000 in
theorem gX1_rowAfter_X7_rows : GoodIn wsX1_rowAfter (wsV RX1 47 RX7 yX7_rows wsX7_rows) := goodIn_app (goodIn_of _ (by decide +kernel)) ggX1_rowAfter_X7_rows
set_option maxRecDepth 20000 in
theorem ggX1_rowAfter_X7_gainByTurning : GoodIn wsX1_rowAfter wsX7_gainByTurning := goodIn_r _ [12, 13, 14, 15, 16, 17, 18, 19, 6, 20, 21, 22, 23, 24, 25, 26, 27, 28, 29, 30, 31, 32, 33, 34, 35, 36, 37, 38, 41, 42, 43, 44, 45, 46, 47, 48] (by decide +kernel) (by decide +kernel)
set_option maxRecDepth 20000 in
theorem gX1_rowAfter_X7_gainByTurning : GoodIn wsX1_rowAfter (wsV RX1 53 RX7 yX7_gainByTurning wsX7_gainByTurning) := goodIn_app (goodIn_of _ (by decide +kernel)) ggX1_rowAfter_X7_gainByTurning
theorem dX1_rowAfter_0 : decode cX1_rowAfter 0 = .ok (.iconst 5, 1) := by decide +kernel
theorem dX1_rowAfter_1 : decode cX1_rowAfter 1 = .ok (.iload_n 2, 1) := by decide +kernel
theorem dX1_rowAfter_2 : decode cX1_rowAfter 2 = .ok (.imul, 1) := by decide +kernel
theorem dX1_rowAfter_3 : decode cX1_rowAfter 3 = .ok (.iconst 3, 1) := by decide +kernel
theorem dX1_rowAfter_4 : decode cX1_rowAfter 4 = .ok (.iadd, 1) := by decide +kernel
theorem dX1_rowAfter_5 : decode cX1_rowAfter 5 = .ok (.aload_n 0, 1) := by decide +kernel
theorem dX1_rowAfter_6 : decode cX1_rowAfter 6 = .ok (.getfield 13, 3) := by decide +kernel
theorem dX1_rowAfter_9 : decode cX1_rowAfter 9 = .ok (.iadd, 1) := by decide +kernel
theorem dX1_rowAfter_10 : decode cX1_rowAfter 10 = .ok (.aload_n 1, 1) := by decide +kernel
theorem dX1_rowAfter_11 : decode cX1_rowAfter 11 = .ok (.invokevirtual 47, 3) := by decide +kernel
theorem dX1_rowAfter_14 : decode cX1_rowAfter 14 = .ok (.iconst 1, 1) := by decide +kernel
theorem dX1_rowAfter_15 : decode cX1_rowAfter 15 = .ok (.isub, 1) := by decide +kernel
theorem dX1_rowAfter_16 : decode cX1_rowAfter 16 = .ok (.iand, 1) := by decide +kernel
theorem dX1_rowAfter_17 : decode cX1_rowAfter 17 = .ok (.istore_n 3, 1) := by decide +kernel
theorem dX1_rowAfter_18 : decode cX1_rowAfter 18 = .ok (.iconst 0, 1) := by decide +kernel
theorem dX1_rowAfter_19 : decode cX1_rowAfter 19 = .ok (.istore 4, 2) := by decide +kernel
theorem dX1_rowAfter_21 : decode cX1_rowAfter 21 = .ok (.iconst 0, 1) := by decide +kernel
theorem dX1_rowAfter_22 : decode cX1_rowAfter 22 = .ok (.istore 5, 2) := by decide +kernel
theorem dX1_rowAfter_24 : decode cX1_rowAfter 24 = .ok (.iload 5, 2) := by decide +kernel
theorem dX1_rowAfter_26 : decode cX1_rowAfter 26 = .ok (.aload_n 1, 1) := by decide +kernel
theorem dX1_rowAfter_27 : decode cX1_rowAfter 27 = .ok (.getfield 50, 3) := by decide +kernel
theorem dX1_rowAfter_30 : decode cX1_rowAfter 30 = .ok (.if_icmp .ge 36, 3) := by decide +kernel
theorem dX1_rowAfter_33 : decode cX1_rowAfter 33 = .ok (.aload_n 1, 1) := by decide +kernel
theorem dX1_rowAfter_34 : decode cX1_rowAfter 34 = .ok (.iload 5, 2) := by decide +kernel
theorem dX1_rowAfter_36 : decode cX1_rowAfter 36 = .ok (.iload_n 2, 1) := by decide +kernel
theorem dX1_rowAfter_37 : decode cX1_rowAfter 37 = .ok (.invokevirtual 53, 3) := by decide +kernel
theorem dX1_rowAfter_40 : decode cX1_rowAfter 40 = .ok (.istore 6, 2) := by decide +kernel
theorem dX1_rowAfter_42 : decode cX1_rowAfter 42 = .ok (.iload 6, 2) := by decide +kernel
theorem dX1_rowAfter_44 : decode cX1_rowAfter 44 = .ok (.iload 4, 2) := by decide +kernel
theorem dX1_rowAfter_46 : decode cX1_rowAfter 46 = .ok (.if_icmp .le 14, 3) := by decide +kernel
theorem dX1_rowAfter_49 : decode cX1_rowAfter 49 = .ok (.iload_n 2, 1) := by decide +kernel
theorem dX1_rowAfter_50 : decode cX1_rowAfter 50 = .ok (.iconst 1, 1) := by decide +kernel
theorem dX1_rowAfter_51 : decode cX1_rowAfter 51 = .ok (.iload 5, 2) := by decide +kernel
theorem dX1_rowAfter_53 : decode cX1_rowAfter 53 = .ok (.ishl, 1) := by decide +kernel
theorem dX1_rowAfter_54 : decode cX1_rowAfter 54 = .ok (.ixor, 1) := by decide +kernel
theorem dX1_rowAfter_55 : decode cX1_rowAfter 55 = .ok (.istore_n 3, 1) := by decide +kernel
theorem dX1_rowAfter_56 : decode cX1_rowAfter 56 = .ok (.iload 6, 2) := by decide +kernel
theorem dX1_rowAfter_58 : decode cX1_rowAfter 58 = .ok (.istore 4, 2) := by decide +kernel
theorem dX1_rowAfter_60 : decode cX1_rowAfter 60 = .ok (.iinc 5 1, 3) := by decide +kernel
theorem dX1_rowAfter_63 : decode cX1_rowAfter 63 = .ok (.goto (-39), 3) := by decide +kernel
theorem dX1_rowAfter_66 : decode cX1_rowAfter 66 = .ok (.iload_n 3, 1) := by decide +kernel
theorem dX1_rowAfter_67 : decode cX1_rowAfter 67 = .ok (.ireturn, 1) := by decide +kernel
set_option maxRecDepth 20000 in
theorem ggX1_search_X7_holdsSoFar : GoodIn wsX1_search wsX7_holdsSoFar := goodIn_r _ [8, 9, 10, 11, 12, 13, 14, 7, 15, 16, 17, 18, 19, 20, 21, 22, 23, 24, 25, 26, 27, 28, 29, 30, 31, 32, 33, 34, 35, 38, 39, 40, 41, 42, 43, 44, 45] (by decide +kernel) (by decide +kernel)
set_option maxRecDepth 20000 in
theorem gX1_search_X7_holdsSoFar : GoodIn wsX1_search (wsV RX1 56 RX7 yX7_holdsSoFar wsX7_holdsSoFar) := goodIn_app (goodIn_of _ (by decide +kernel)) ggX1_search_X7_holdsSoFar
theorem dX1_search_0 : decode cX1_search 0 = .ok (.iconst 0, 1) := by decide +kernel
theorem dX1_search_1 : decode cX1_search 1 = .ok (.istore_n 3, 1) := by decide +kernel
theorem dX1_search_2 : decode cX1_search 2 = .ok (.iconst 0, 1) := by decide +kernel
theorem dX1_search_3 : decode cX1_search 3 = .ok (.istore 4, 2) := by decide +kernel
theorem dX1_search_5 : decode cX1_search 5 = .ok (.iconst 1, 1) := by decide +kernel
theorem dX1_search_6 : decode cX1_search 6 = .ok (.istore 5, 2) := by decide +kernel
theorem dX1_search_8 : decode cX1_search 8 = .ok (.iload 5, 2) := by decide +kernel
theorem dX1_search_10 : decode cX1_search 10 = .ok (.iload_n 2, 1) := by decide +kernel
theorem dX1_search_11 : decode cX1_search 11 = .ok (.if_icmp .gt 93, 3) := by decide +kernel
theorem dX1_search_14 : decode cX1_search 14 = .ok (.aload_n 0, 1) := by decide +kernel
theorem dX1_search_15 : decode cX1_search 15 = .ok (.iload 5, 2) := by decide +kernel
theorem dX1_search_17 : decode cX1_search 17 = .ok (.putfield 13, 3) := by decide +kernel
theorem dX1_search_20 : decode cX1_search 20 = .ok (.aload_n 1, 1) := by decide +kernel
theorem dX1_search_21 : decode cX1_search 21 = .ok (.iload_n 3, 1) := by decide +kernel
theorem dX1_search_22 : decode cX1_search 22 = .ok (.iload 4, 2) := by decide +kernel
theorem dX1_search_24 : decode cX1_search 24 = .ok (.invokevirtual 56, 3) := by decide +kernel
theorem dX1_search_27 : decode cX1_search 27 = .ok (.ifCond .eq 24, 3) := by decide +kernel
theorem dX1_search_30 : decode cX1_search 30 = .ok (.iload_n 3, 1) := by decide +kernel
theorem dX1_search_31 : decode cX1_search 31 = .ok (.aload_n 1, 1) := by decide +kernel
theorem dX1_search_32 : decode cX1_search 32 = .ok (.getfield 50, 3) := by decide +kernel
theorem dX1_search_35 : decode cX1_search 35 = .ok (.if_icmp .ne 10, 3) := by decide +kernel
theorem dX1_search_38 : decode cX1_search 38 = .ok (.aload_n 0, 1) := by decide +kernel
theorem dX1_search_39 : decode cX1_search 39 = .ok (.iload 4, 2) := by decide +kernel
theorem dX1_search_41 : decode cX1_search 41 = .ok (.putfield 7, 3) := by decide +kernel
theorem dX1_search_44 : decode cX1_search 44 = .ok (.return_, 1) := by decide +kernel
theorem dX1_search_45 : decode cX1_search 45 = .ok (.iinc 3 1, 3) := by decide +kernel
theorem dX1_search_48 : decode cX1_search 48 = .ok (.goto 50, 3) := by decide +kernel
theorem dX1_search_51 : decode cX1_search 51 = .ok (.iload_n 3, 1) := by decide +kernel
theorem dX1_search_52 : decode cX1_search 52 = .ok (.ifCond .le 31, 3) := by decide +kernel
theorem dX1_search_55 : decode cX1_search 55 = .ok (.iload 4, 2) := by decide +kernel
theorem dX1_search_57 : decode cX1_search 57 = .ok (.iload_n 3, 1) := by decide +kernel
theorem dX1_search_58 : decode cX1_search 58 = .ok (.iconst 1, 1) := by decide +kernel
theorem dX1_search_59 : decode cX1_search 59 = .ok (.isub, 1) := by decide +kernel
theorem dX1_search_60 : decode cX1_search 60 = .ok (.ishr, 1) := by decide +kernel
theorem dX1_search_61 : decode cX1_search 61 = .ok (.iconst 1, 1) := by decide +kernel
theorem dX1_search_62 : decode cX1_search 62 = .ok (.iand, 1) := by decide +kernel
theorem dX1_search_63 : decode cX1_search 63 = .ok (.iconst 1, 1) := by decide +kernel
theorem dX1_search_64 : decode cX1_search 64 = .ok (.if_icmp .ne 19, 3) := by decide +kernel
theorem dX1_search_67 : decode cX1_search 67 = .ok (.iinc 3 (-1), 3) := by decide +kernel
theorem dX1_search_70 : decode cX1_search 70 = .ok (.iload 4, 2) := by decide +kernel
theorem dX1_search_72 : decode cX1_search 72 = .ok (.iconst 1, 1) := by decide +kernel
theorem dX1_search_73 : decode cX1_search 73 = .ok (.iload_n 3, 1) := by decide +kernel
theorem dX1_search_74 : decode cX1_search 74 = .ok (.ishl, 1) := by decide +kernel
theorem dX1_search_75 : decode cX1_search 75 = .ok (.iconst (-1), 1) := by decide +kernel
theorem dX1_search_76 : decode cX1_search 76 = .ok (.ixor, 1) := by decide +kernel
theorem dX1_search_77 : decode cX1_search 77 = .ok (.iand, 1) := by decide +kernel
theorem dX1_search_78 : decode cX1_search 78 = .ok (.istore 4, 2) := by decide +kernel
theorem dX1_search_80 : decode cX1_search 80 = .ok (.goto (-29), 3) := by decide +kernel
theorem dX1_search_83 : decode cX1_search 83 = .ok (.iload_n 3, 1) := by decide +kernel
theorem dX1_search_84 : decode cX1_search 84 = .ok (.ifCond .ne 4, 3) := by decide +kernel
theorem dX1_search_87 : decode cX1_search 87 = .ok (.return_, 1) := by decide +kernel
theorem dX1_search_88 : decode cX1_search 88 = .ok (.iload 4, 2) := by decide +kernel
theorem dX1_search_90 : decode cX1_search 90 = .ok (.iconst 1, 1) := by decide +kernel
theorem dX1_search_91 : decode cX1_search 91 = .ok (.iload_n 3, 1) := by decide +kernel
theorem dX1_search_92 : decode cX1_search 92 = .ok (.iconst 1, 1) := by decide +kernel
theorem dX1_search_93 : decode cX1_search 93 = .ok (.isub, 1) := by decide +kernel
theorem dX1_search_94 : decode cX1_search 94 = .ok (.ishl, 1) := by decide +kernel
theorem dX1_search_95 : decode cX1_search 95 = .ok (.ior, 1) := by decide +kernel
theorem dX1_search_96 : decode cX1_search 96 = .ok (.istore 4, 2) := by decide +kernel
theorem dX1_search_98 : decode cX1_search 98 = .ok (.iinc 5 1, 3) := by decide +kernel
theorem dX1_search_101 : decode cX1_search 101 = .ok (.goto (-93), 3) := by decide +kernel
theorem dX1_search_104 : decode cX1_search 104 = .ok (.return_, 1) := by decide +kernel
theorem dX2_exists_0 : decode cX2_exists 0 = .ok (.iload_n 0, 1) := by decide +kernel
theorem dX2_exists_1 : decode cX2_exists 1 = .ok (.ifCond .lt 13, 3) := by decide +kernel
theorem dX2_exists_4 : decode cX2_exists 4 = .ok (.iload_n 0, 1) := by decide +kernel
theorem dX2_exists_5 : decode cX2_exists 5 = .ok (.bipush 6, 2) := by decide +kernel
theorem dX2_exists_7 : decode cX2_exists 7 = .ok (.if_icmp .ge 7, 3) := by decide +kernel
theorem dX2_exists_10 : decode cX2_exists 10 = .ok (.iconst 1, 1) := by decide +kernel
theorem dX2_exists_11 : decode cX2_exists 11 = .ok (.goto 4, 3) := by decide +kernel
theorem dX2_exists_14 : decode cX2_exists 14 = .ok (.iconst 0, 1) := by decide +kernel
theorem dX2_exists_15 : decode cX2_exists 15 = .ok (.ireturn, 1) := by decide +kernel
theorem dX2_holds_0 : decode cX2_holds 0 = .ok (.iload_n 0, 1) := by decide +kernel
theorem dX2_holds_1 : decode cX2_holds 1 = .ok (.tableswitch 108 1 5 #[35, 55, 68, 79, 91], 35) := by decide +kernel
theorem dX2_holds_36 : decode cX2_holds 36 = .ok (.iload_n 1, 1) := by decide +kernel
theorem dX2_holds_37 : decode cX2_holds 37 = .ok (.ifCond .le 17, 3) := by decide +kernel
theorem dX2_holds_40 : decode cX2_holds 40 = .ok (.iload_n 1, 1) := by decide +kernel
theorem dX2_holds_41 : decode cX2_holds 41 = .ok (.iload_n 2, 1) := by decide +kernel
theorem dX2_holds_42 : decode cX2_holds 42 = .ok (.if_icmp .lt 8, 3) := by decide +kernel
theorem dX2_holds_45 : decode cX2_holds 45 = .ok (.iload_n 2, 1) := by decide +kernel
theorem dX2_holds_46 : decode cX2_holds 46 = .ok (.iconst 1, 1) := by decide +kernel
theorem dX2_holds_47 : decode cX2_holds 47 = .ok (.if_icmp .ne 7, 3) := by decide +kernel
theorem dX2_holds_50 : decode cX2_holds 50 = .ok (.iconst 1, 1) := by decide +kernel
theorem dX2_holds_51 : decode cX2_holds 51 = .ok (.goto 4, 3) := by decide +kernel
theorem dX2_holds_54 : decode cX2_holds 54 = .ok (.iconst 0, 1) := by decide +kernel
theorem dX2_holds_55 : decode cX2_holds 55 = .ok (.ireturn, 1) := by decide +kernel
theorem dX2_holds_56 : decode cX2_holds 56 = .ok (.iload_n 1, 1) := by decide +kernel
theorem dX2_holds_57 : decode cX2_holds 57 = .ok (.iconst 2, 1) := by decide +kernel
theorem dX2_holds_58 : decode cX2_holds 58 = .ok (.irem, 1) := by decide +kernel
theorem dX2_holds_59 : decode cX2_holds 59 = .ok (.iconst 1, 1) := by decide +kernel
theorem dX2_holds_60 : decode cX2_holds 60 = .ok (.if_icmp .ne 7, 3) := by decide +kernel
theorem dX2_holds_63 : decode cX2_holds 63 = .ok (.iconst 1, 1) := by decide +kernel
theorem dX2_holds_64 : decode cX2_holds 64 = .ok (.goto 4, 3) := by decide +kernel
theorem dX2_holds_67 : decode cX2_holds 67 = .ok (.iconst 0, 1) := by decide +kernel
theorem dX2_holds_68 : decode cX2_holds 68 = .ok (.ireturn, 1) := by decide +kernel
theorem dX2_holds_69 : decode cX2_holds 69 = .ok (.iload_n 1, 1) := by decide +kernel
theorem dX2_holds_70 : decode cX2_holds 70 = .ok (.iconst 1, 1) := by decide +kernel
theorem dX2_holds_71 : decode cX2_holds 71 = .ok (.if_icmp .ne 7, 3) := by decide +kernel
theorem dX2_holds_74 : decode cX2_holds 74 = .ok (.iconst 1, 1) := by decide +kernel
theorem dX2_holds_75 : decode cX2_holds 75 = .ok (.goto 4, 3) := by decide +kernel
theorem dX2_holds_78 : decode cX2_holds 78 = .ok (.iconst 0, 1) := by decide +kernel
theorem dX2_holds_79 : decode cX2_holds 79 = .ok (.ireturn, 1) := by decide +kernel
theorem dX2_holds_80 : decode cX2_holds 80 = .ok (.iload_n 1, 1) := by decide +kernel
theorem dX2_holds_81 : decode cX2_holds 81 = .ok (.iconst 2, 1) := by decide +kernel
theorem dX2_holds_82 : decode cX2_holds 82 = .ok (.irem, 1) := by decide +kernel
theorem dX2_holds_83 : decode cX2_holds 83 = .ok (.ifCond .ne 7, 3) := by decide +kernel
theorem dX2_holds_86 : decode cX2_holds 86 = .ok (.iconst 1, 1) := by decide +kernel
theorem dX2_holds_87 : decode cX2_holds 87 = .ok (.goto 4, 3) := by decide +kernel
theorem dX2_holds_90 : decode cX2_holds 90 = .ok (.iconst 0, 1) := by decide +kernel
theorem dX2_holds_91 : decode cX2_holds 91 = .ok (.ireturn, 1) := by decide +kernel
theorem dX2_holds_92 : decode cX2_holds 92 = .ok (.iload_n 1, 1) := by decide +kernel
theorem dX2_holds_93 : decode cX2_holds 93 = .ok (.ifCond .le 14, 3) := by decide +kernel
theorem dX2_holds_96 : decode cX2_holds 96 = .ok (.iconst 2, 1) := by decide +kernel
theorem dX2_holds_97 : decode cX2_holds 97 = .ok (.iload_n 1, 1) := by decide +kernel
theorem dX2_holds_98 : decode cX2_holds 98 = .ok (.imul, 1) := by decide +kernel
theorem dX2_holds_99 : decode cX2_holds 99 = .ok (.iload_n 2, 1) := by decide +kernel
theorem dX2_holds_100 : decode cX2_holds 100 = .ok (.if_icmp .le 7, 3) := by decide +kernel
theorem dX2_holds_103 : decode cX2_holds 103 = .ok (.iconst 1, 1) := by decide +kernel
theorem dX2_holds_104 : decode cX2_holds 104 = .ok (.goto 4, 3) := by decide +kernel
theorem dX2_holds_107 : decode cX2_holds 107 = .ok (.iconst 0, 1) := by decide +kernel
theorem dX2_holds_108 : decode cX2_holds 108 = .ok (.ireturn, 1) := by decide +kernel
theorem dX2_holds_109 : decode cX2_holds 109 = .ok (.iload_n 1, 1) := by decide +kernel
theorem dX2_holds_110 : decode cX2_holds 110 = .ok (.ifCond .le 7, 3) := by decide +kernel
theorem dX2_holds_113 : decode cX2_holds 113 = .ok (.iconst 1, 1) := by decide +kernel
theorem dX2_holds_114 : decode cX2_holds 114 = .ok (.goto 4, 3) := by decide +kernel
theorem dX2_holds_117 : decode cX2_holds 117 = .ok (.iconst 0, 1) := by decide +kernel
theorem dX2_holds_118 : decode cX2_holds 118 = .ok (.ireturn, 1) := by decide +kernel
set_option maxRecDepth 20000 in
theorem ggX2_worth_X2_holds : GoodIn wsX2_worth wsX2_holds := goodIn_r _ [4] (by decide +kernel) (by decide +kernel)
set_option maxRecDepth 20000 in
theorem gX2_worth_X2_holds : GoodIn wsX2_worth (va_wsS RX2 9 yX2_holds wsX2_holds) := goodIn_app (goodIn_of _ (by decide +kernel)) ggX2_worth_X2_holds
theorem dX2_worth_0 : decode cX2_worth 0 = .ok (.iload_n 0, 1) := by decide +kernel
theorem dX2_worth_1 : decode cX2_worth 1 = .ok (.iload_n 1, 1) := by decide +kernel
theorem dX2_worth_2 : decode cX2_worth 2 = .ok (.iload_n 2, 1) := by decide +kernel
theorem dX2_worth_3 : decode cX2_worth 3 = .ok (.invokestatic 9, 3) := by decide +kernel
theorem dX2_worth_6 : decode cX2_worth 6 = .ok (.ifCond .eq 7, 3) := by decide +kernel
