theorem goodIn_r {big : List Cond} (ws : List Cond) (ps : List Nat) (hp : ws = ps.filterMap (fun i => big[i]?)) (h : ws.all goodWord = true) : GoodIn big ws := by
  intro w hw
  have h1 := List.all_eq_true.mp h w hw
  rw [hp] at hw
  obtain ⟨i, -, hi⟩ := List.mem_filterMap.mp hw
  have hm : w ∈ big := by first | exact List.mem_of_getElem? hi | exact List.getElem?_mem hi
  exact ⟨hm, good_of_word h1⟩
theorem goodIn_app {big a b : List Cond} (ha : GoodIn big a) (hb : GoodIn big b) : GoodIn big (a ++ b) := fun w h => (List.mem_append.mp h).elim (ha w) (hb w)
theorem goodIn_ca {big a b : List Cond} {c : Cond} (ha : GoodIn big (c :: a)) (hb : GoodIn big b) : GoodIn big (c :: (a ++ b)) := fun w h => (List.mem_cons.mp h).elim (fun e => ha w (List.mem_cons.mpr (Or.inl e))) (fun h => (List.mem_append.mp h).elim (fun h => ha w (List.mem_cons.mpr (Or.inr h))) (hb w))
theorem goodIn_sub {big ws : List Cond} (hm : ∀ w ∈ ws, w ∈ big) (h : ws.all goodWord = true) : GoodIn big ws := fun w hw => ⟨hm w hw, good_of_word (List.all_eq_true.mp h w hw)⟩
def RX0 : String := "RoundRules$Costs"
def TX0 : u_T := fun k => match k with
  | 0 => ("RoundRules$Costs", "program", "LRoundRules$Program;", true)
  | 1 => ("RoundRules$Costs", "layers", "LRoundRules$Layers;", true)
  | 2 => ("RoundRules$Costs", "rounds", "LRoundRules$Rounds;", true)
  | 3 => ("RoundRules$Costs", "cheap", "[J", true)
  | 4 => ("RoundRules$Costs", "order", "[I", true)
  | 5 => ("RoundRules$Costs", "ordered", "I", false)
  | _ => ("RoundRules$Costs", "isInOrder", "Z", false)
def tyX0 : Nat → FieldType := fun k => match k with
  | 0 => .object "RoundRules$Program"
  | 1 => .object "RoundRules$Layers"
  | 2 => .object "RoundRules$Rounds"
  | 3 => .array .long
  | 4 => .array .int
  | 5 => .int
  | _ => .boolean
abbrev wsX00 : List Cond := u_ws RX0 TX0 7
theorem nmX0 : ∀ a, a < 7 → ∀ b, b < 7 → a ≠ b → (TX0 a).2.1 ≠ (TX0 b).2.1 := by decide +kernel
theorem tyX0_ok : ∀ k, k < 7 → parseFieldDescriptor (TX0 k).2.2.1 = some (tyX0 k) := by decide +kernel
abbrev cX0_init : ByteArray := prog_2_method_1_code
def yX0_init : MethodName := ⟨RX0, "<init>", "(LRoundRules$Program;LRoundRules$Layers;LRoundRules$Rounds;)V"⟩
abbrev cX0_run : ByteArray := prog_2_method_2_code
def yX0_run : MethodName := ⟨RX0, "run", "()V"⟩
abbrev cX0_isCheapened : ByteArray := prog_2_method_3_code
def yX0_isCheapened : MethodName := ⟨RX0, "isCheapened", "()Z"⟩
abbrev cX0_wayBy : ByteArray := prog_2_method_4_code
def yX0_wayBy : MethodName := ⟨RX0, "wayBy", "(II)J"⟩
abbrev cX0_partsThrough : ByteArray := prog_2_method_5_code
def yX0_partsThrough : MethodName := ⟨RX0, "partsThrough", "(III)J"⟩
abbrev cX0_cheapOf : ByteArray := prog_2_method_6_code
def yX0_cheapOf : MethodName := ⟨RX0, "cheapOf", "(I)I"⟩
abbrev cX0_lastRule : ByteArray := prog_2_method_7_code
def yX0_lastRule : MethodName := ⟨RX0, "lastRule", "(I)I"⟩
abbrev cX0_middle : ByteArray := prog_2_method_8_code
def yX0_middle : MethodName := ⟨RX0, "middle", "(I)I"⟩
abbrev cX0_greatest : ByteArray := prog_2_method_9_code
def yX0_greatest : MethodName := ⟨RX0, "greatest", "()I"⟩
abbrev cX0_putInOrder : ByteArray := prog_2_method_10_code
def yX0_putInOrder : MethodName := ⟨RX0, "putInOrder", "()V"⟩
abbrev cX0_comesAhead : ByteArray := prog_2_method_11_code
def yX0_comesAhead : MethodName := ⟨RX0, "comesAhead", "(II)Z"⟩
abbrev cX0_settledFact : ByteArray := prog_2_method_12_code
def yX0_settledFact : MethodName := ⟨RX0, "settledFact", "(I)I"⟩
abbrev cX0_rankedFact : ByteArray := prog_2_method_13_code
def yX0_rankedFact : MethodName := ⟨RX0, "rankedFact", "(II)I"⟩
def RX1 : String := "RoundRules$Layers"
def TX1 : u_T := fun k => match k with
  | 0 => ("RoundRules$Layers", "program", "LRoundRules$Program;", true)
  | 1 => ("RoundRules$Layers", "layerOf", "[I", true)
  | _ => ("RoundRules$Layers", "reach", "[I", true)
def tyX1 : Nat → FieldType := fun k => match k with
  | 0 => .object "RoundRules$Program"
  | 1 => .array .int
  | _ => .array .int
abbrev wsX10 : List Cond := u_ws RX1 TX1 3
theorem nmX1 : ∀ a, a < 3 → ∀ b, b < 3 → a ≠ b → (TX1 a).2.1 ≠ (TX1 b).2.1 := by decide +kernel
theorem tyX1_ok : ∀ k, k < 3 → parseFieldDescriptor (TX1 k).2.2.1 = some (tyX1 k) := by decide +kernel
abbrev cX1_init : ByteArray := prog_3_method_1_code
def yX1_init : MethodName := ⟨RX1, "<init>", "(LRoundRules$Program;)V"⟩
abbrev cX1_find : ByteArray := prog_3_method_2_code
def yX1_find : MethodName := ⟨RX1, "find", "()Z"⟩
abbrev cX1_isRaised : ByteArray := prog_3_method_3_code
def yX1_isRaised : MethodName := ⟨RX1, "isRaised", "()Z"⟩
abbrev cX1_leastOfHead : ByteArray := prog_3_method_4_code
def yX1_leastOfHead : MethodName := ⟨RX1, "leastOfHead", "(I)I"⟩
abbrev cX1_goingRound : ByteArray := prog_3_method_5_code
def yX1_goingRound : MethodName := ⟨RX1, "goingRound", "()I"⟩
abbrev cX1_leads : ByteArray := prog_3_method_6_code
def yX1_leads : MethodName := ⟨RX1, "leads", "(II)Z"⟩
abbrev cX1_findReach : ByteArray := prog_3_method_7_code
def yX1_findReach : MethodName := ⟨RX1, "findReach", "()V"⟩
def RX2 : String := "RoundRules$Program"
def TX2 : u_T := fun k => match k with
  | 0 => ("RoundRules$Program", "kindOf", "[I", true)
  | 1 => ("RoundRules$Program", "priceOf", "[I", true)
  | 2 => ("RoundRules$Program", "formOf", "[I", true)
  | 3 => ("RoundRules$Program", "headOf", "[I", true)
  | 4 => ("RoundRules$Program", "bodyOf", "[I", true)
  | 5 => ("RoundRules$Program", "otherOf", "[I", true)
  | 6 => ("RoundRules$Program", "told", "[I", true)
  | 7 => ("RoundRules$Program", "relations", "I", false)
  | _ => ("RoundRules$Program", "rules", "I", false)
def tyX2 : Nat → FieldType := fun k => match k with
  | 0 => .array .int
  | 1 => .array .int
  | 2 => .array .int
  | 3 => .array .int
  | 4 => .array .int
  | 5 => .array .int
  | 6 => .array .int
  | 7 => .int
  | _ => .int
abbrev wsX20 : List Cond := u_ws RX2 TX2 9
theorem nmX2 : ∀ a, a < 9 → ∀ b, b < 9 → a ≠ b → (TX2 a).2.1 ≠ (TX2 b).2.1 := by decide +kernel
theorem tyX2_ok : ∀ k, k < 9 → parseFieldDescriptor (TX2 k).2.2.1 = some (tyX2 k) := by decide +kernel
abbrev cX2_init : ByteArray := prog_4_method_1_code
def yX2_init : MethodName := ⟨RX2, "<init>", "()V"⟩
abbrev cX2_clear : ByteArray := prog_4_method_2_code
def yX2_clear : MethodName := ⟨RX2, "clear", "()V"⟩
abbrev cX2_take : ByteArray := prog_4_method_3_code
def yX2_take : MethodName := ⟨RX2, "take", "(LRoundRules$Program;)V"⟩
abbrev cX2_isThere : ByteArray := prog_4_method_4_code
def yX2_isThere : MethodName := ⟨RX2, "isThere", "()Z"⟩
abbrev cX2_hasOther : ByteArray := prog_4_method_5_code
def yX2_hasOther : MethodName := ⟨RX2, "hasOther", "(I)Z"⟩
abbrev cX2_fits : ByteArray := prog_4_method_6_code
def yX2_fits : MethodName := ⟨RX2, "fits", "(II)Z"⟩
abbrev cX2_cost : ByteArray := prog_4_method_7_code
def yX2_cost : MethodName := ⟨RX2, "cost", "(I)I"⟩
abbrev cX2_rulesOfHead : ByteArray := prog_4_method_8_code
def yX2_rulesOfHead : MethodName := ⟨RX2, "rulesOfHead", "(I)I"⟩
abbrev cX2_isTold : ByteArray := prog_4_method_9_code
def yX2_isTold : MethodName := ⟨RX2, "isTold", "(I)Z"⟩
abbrev cX2_toldCount : ByteArray := prog_4_method_10_code
def yX2_toldCount : MethodName := ⟨RX2, "toldCount", "()I"⟩
def RX3 : String := "RoundRules$Rounds"
def TX3 : u_T := fun k => match k with
  | 0 => ("RoundRules$Rounds", "program", "LRoundRules$Program;", true)
  | 1 => ("RoundRules$Rounds", "layers", "LRoundRules$Layers;", true)
  | 2 => ("RoundRules$Rounds", "holds", "[I", true)
  | 3 => ("RoundRules$Rounds", "fresh", "[I", true)
  | 4 => ("RoundRules$Rounds", "bornIn", "[I", true)
  | _ => ("RoundRules$Rounds", "count", "I", false)
def tyX3 : Nat → FieldType := fun k => match k with
  | 0 => .object "RoundRules$Program"
  | 1 => .object "RoundRules$Layers"
  | 2 => .array .int
  | 3 => .array .int
  | 4 => .array .int
  | _ => .int
abbrev wsX30 : List Cond := u_ws RX3 TX3 6
theorem nmX3 : ∀ a, a < 6 → ∀ b, b < 6 → a ≠ b → (TX3 a).2.1 ≠ (TX3 b).2.1 := by decide +kernel
theorem tyX3_ok : ∀ k, k < 6 → parseFieldDescriptor (TX3 k).2.2.1 = some (tyX3 k) := by decide +kernel
abbrev cX3_init : ByteArray := prog_5_method_1_code
def yX3_init : MethodName := ⟨RX3, "<init>", "(LRoundRules$Program;LRoundRules$Layers;)V"⟩
abbrev cX3_run : ByteArray := prog_5_method_2_code
def yX3_run : MethodName := ⟨RX3, "run", "()V"⟩
abbrev cX3_hold : ByteArray := prog_5_method_3_code
def yX3_hold : MethodName := ⟨RX3, "hold", "(III)V"⟩
abbrev cX3_isRoundIn : ByteArray := prog_5_method_4_code
def yX3_isRoundIn : MethodName := ⟨RX3, "isRoundIn", "(I)Z"⟩
abbrev cX3_followBy : ByteArray := prog_5_method_5_code
def yX3_followBy : MethodName := ⟨RX3, "followBy", "(I)I"⟩
abbrev cX3_turnedSet : ByteArray := prog_5_method_6_code
def yX3_turnedSet : MethodName := ⟨RX3, "turnedSet", "(I)I"⟩
abbrev cX3_joinedSet : ByteArray := prog_5_method_7_code
def yX3_joinedSet : MethodName := ⟨RX3, "joinedSet", "(II)I"⟩
abbrev cX3_isHeld : ByteArray := prog_5_method_8_code
def yX3_isHeld : MethodName := ⟨RX3, "isHeld", "(I)Z"⟩
abbrev cX3_held : ByteArray := prog_5_method_9_code
def yX3_held : MethodName := ⟨RX3, "held", "()I"⟩
abbrev cX3_bornAt : ByteArray := prog_5_method_10_code
def yX3_bornAt : MethodName := ⟨RX3, "bornAt", "(I)I"⟩
def RX4 : String := "RoundRules$Sheet"
def TX4 : u_T := fun k => match k with
  | 0 => ("RoundRules$Sheet", "cells", "[I", true)
  | 1 => ("RoundRules$Sheet", "isThere", "Z", false)
  | 2 => ("RoundRules$Sheet", "lane", "I", false)
  | _ => ("RoundRules$Sheet", "size", "I", false)
def tyX4 : Nat → FieldType := fun k => match k with
  | 0 => .array .int
  | 1 => .boolean
  | 2 => .int
  | _ => .int
abbrev wsX40 : List Cond := u_ws RX4 TX4 4
theorem nmX4 : ∀ a, a < 4 → ∀ b, b < 4 → a ≠ b → (TX4 a).2.1 ≠ (TX4 b).2.1 := by decide +kernel
theorem tyX4_ok : ∀ k, k < 4 → parseFieldDescriptor (TX4 k).2.2.1 = some (tyX4 k) := by decide +kernel
abbrev cX4_init : ByteArray := prog_6_method_1_code
def yX4_init : MethodName := ⟨RX4, "<init>", "()V"⟩
abbrev cX4_renew : ByteArray := prog_6_method_2_code
def yX4_renew : MethodName := ⟨RX4, "renew", "(II)V"⟩
abbrev cX4_clear : ByteArray := prog_6_method_3_code
def yX4_clear : MethodName := ⟨RX4, "clear", "()Z"⟩
abbrev cX4_faultAs : ByteArray := prog_6_method_4_code
def yX4_faultAs : MethodName := ⟨RX4, "faultAs", "(I)I"⟩
abbrev cX4_hasCell : ByteArray := prog_6_method_5_code
def yX4_hasCell : MethodName := ⟨RX4, "hasCell", "(I)Z"⟩
abbrev cX4_has : ByteArray := prog_6_method_6_code
def yX4_has : MethodName := ⟨RX4, "has", "(II)Z"⟩
abbrev cX4_cut : ByteArray := prog_6_method_7_code
def yX4_cut : MethodName := ⟨RX4, "cut", "(I)I"⟩
def RX5 : String := "RoundRules$TextReader"
def TX5 : u_T := fun k => match k with
  | 0 => ("RoundRules$TextReader", "codes", "[I", true)
  | 1 => ("RoundRules$TextReader", "count", "I", false)
  | 2 => ("RoundRules$TextReader", "at", "I", false)
  | _ => ("RoundRules$TextReader", "isWrong", "Z", false)
def tyX5 : Nat → FieldType := fun k => match k with
  | 0 => .array .int
  | 1 => .int
  | 2 => .int
  | _ => .boolean
abbrev wsX50 : List Cond := u_ws RX5 TX5 4
theorem nmX5 : ∀ a, a < 4 → ∀ b, b < 4 → a ≠ b → (TX5 a).2.1 ≠ (TX5 b).2.1 := by decide +kernel
theorem tyX5_ok : ∀ k, k < 4 → parseFieldDescriptor (TX5 k).2.2.1 = some (tyX5 k) := by decide +kernel
abbrev cX5_init : ByteArray := prog_7_method_1_code
def yX5_init : MethodName := ⟨RX5, "<init>", "()V"⟩
abbrev cX5_reads : ByteArray := prog_7_method_2_code
def yX5_reads : MethodName := ⟨RX5, "reads", "(LRoundRules$Sheet;IILRoundRules$Program;)Z"⟩
abbrev cX5_readRule : ByteArray := prog_7_method_3_code
def yX5_readRule : MethodName := ⟨RX5, "readRule", "(LRoundRules$Program;)V"⟩
abbrev cX5_readTold : ByteArray := prog_7_method_4_code
def yX5_readTold : MethodName := ⟨RX5, "readTold", "(LRoundRules$Program;)V"⟩
abbrev cX5_isNext : ByteArray := prog_7_method_5_code
def yX5_isNext : MethodName := ⟨RX5, "isNext", "(C)Z"⟩
abbrev cX5_letter : ByteArray := prog_7_method_6_code
def yX5_letter : MethodName := ⟨RX5, "letter", "(Ljava/lang/String;)I"⟩
abbrev cX5_digit : ByteArray := prog_7_method_7_code
def yX5_digit : MethodName := ⟨RX5, "digit", "(II)I"⟩
def RX6 : String := "RoundRules$World"
def TX6 : u_T := fun k => match k with
  | 0 => ("RoundRules$World", "program", "LRoundRules$Program;", true)
  | 1 => ("RoundRules$World", "layers", "LRoundRules$Layers;", true)
  | 2 => ("RoundRules$World", "rounds", "LRoundRules$Rounds;", true)
  | 3 => ("RoundRules$World", "costs", "LRoundRules$Costs;", true)
  | _ => ("RoundRules$World", "isSettled", "Z", false)
def tyX6 : Nat → FieldType := fun k => match k with
  | 0 => .object "RoundRules$Program"
  | 1 => .object "RoundRules$Layers"
  | 2 => .object "RoundRules$Rounds"
  | 3 => .object "RoundRules$Costs"
  | _ => .boolean
abbrev wsX60 : List Cond := u_ws RX6 TX6 5
theorem nmX6 : ∀ a, a < 5 → ∀ b, b < 5 → a ≠ b → (TX6 a).2.1 ≠ (TX6 b).2.1 := by decide +kernel
theorem tyX6_ok : ∀ k, k < 5 → parseFieldDescriptor (TX6 k).2.2.1 = some (tyX6 k) := by decide +kernel
abbrev cX6_init : ByteArray := prog_8_method_1_code
def yX6_init : MethodName := ⟨RX6, "<init>", "()V"⟩
abbrev cX6_take : ByteArray := prog_8_method_2_code
def yX6_take : MethodName := ⟨RX6, "take", "(LRoundRules$Program;)V"⟩
abbrev cX6_settle : ByteArray := prog_8_method_3_code
def yX6_settle : MethodName := ⟨RX6, "settle", "()V"⟩
abbrev cX6_reforms : ByteArray := prog_8_method_4_code
def yX6_reforms : MethodName := ⟨RX6, "reforms", "(II)Z"⟩
abbrev cX6_toggle : ByteArray := prog_8_method_5_code
def yX6_toggle : MethodName := ⟨RX6, "toggle", "(III)Z"⟩
abbrev cX6_demandsOf : ByteArray := prog_8_method_6_code
def yX6_demandsOf : MethodName := ⟨RX6, "demandsOf", "(II)I"⟩
abbrev cX6_demandsBy : ByteArray := prog_8_method_7_code
def yX6_demandsBy : MethodName := ⟨RX6, "demandsBy", "(II)I"⟩
abbrev cX6_middles : ByteArray := prog_8_method_8_code
def yX6_middles : MethodName := ⟨RX6, "middles", "(II)I"⟩
def RX7 : String := "RoundRules"
def TX7 : u_T := fun k => match k with
  | 0 => ("RoundRules", "sheets", "[LRoundRules$Sheet;", true)
  | 1 => ("RoundRules", "now", "LRoundRules$World;", true)
  | 2 => ("RoundRules", "draft", "LRoundRules$World;", true)
  | 3 => ("RoundRules", "reader", "LRoundRules$TextReader;", true)
  | 4 => ("RoundRules", "readFact", "[I", true)
  | 5 => ("RoundRules", "readCheap", "[I", true)
  | 6 => ("RoundRules", "readingCount", "I", false)
  | 7 => ("RoundRules", "traceLeft", "I", false)
  | _ => ("RoundRules", "latestFault", "I", false)
def tyX7 : Nat → FieldType := fun k => match k with
  | 0 => .array (.object "RoundRules$Sheet")
  | 1 => .object "RoundRules$World"
  | 2 => .object "RoundRules$World"
  | 3 => .object "RoundRules$TextReader"
  | 4 => .array .int
  | 5 => .array .int
  | 6 => .int
  | 7 => .int
  | _ => .int
abbrev wsX70 : List Cond := u_ws RX7 TX7 9
theorem nmX7 : ∀ a, a < 9 → ∀ b, b < 9 → a ≠ b → (TX7 a).2.1 ≠ (TX7 b).2.1 := by decide +kernel
theorem tyX7_ok : ∀ k, k < 9 → parseFieldDescriptor (TX7 k).2.2.1 = some (tyX7 k) := by decide +kernel
abbrev cX7_init : ByteArray := prog_1_method_1_code
def yX7_init : MethodName := ⟨RX7, "<init>", "()V"⟩
abbrev cX7_program : ByteArray := prog_1_method_2_code
def yX7_program : MethodName := ⟨RX7, "program", "(IIII)I"⟩
abbrev cX7_programOf : ByteArray := prog_1_method_3_code
def yX7_programOf : MethodName := ⟨RX7, "programOf", "(LRoundRules$Sheet;II)I"⟩
abbrev cX7_ofRule : ByteArray := prog_1_method_4_code
def yX7_ofRule : MethodName := ⟨RX7, "ofRule", "(II)I"⟩
abbrev cX7_ofRelation : ByteArray := prog_1_method_5_code
def yX7_ofRelation : MethodName := ⟨RX7, "ofRelation", "(II)I"⟩
abbrev cX7_form : ByteArray := prog_1_method_6_code
def yX7_form : MethodName := ⟨RX7, "form", "(II)I"⟩
abbrev cX7_tell : ByteArray := prog_1_method_7_code
def yX7_tell : MethodName := ⟨RX7, "tell", "(III)I"⟩
abbrev cX7_ofFact : ByteArray := prog_1_method_8_code
def yX7_ofFact : MethodName := ⟨RX7, "ofFact", "(IIII)I"⟩
abbrev cX7_day : ByteArray := prog_1_method_9_code
def yX7_day : MethodName := ⟨RX7, "day", "(IIIII)I"⟩
abbrev cX7_isAskedOfDay : ByteArray := prog_1_method_10_code
def yX7_isAskedOfDay : MethodName := ⟨RX7, "isAskedOfDay", "(I)Z"⟩
abbrev cX7_areActs : ByteArray := prog_1_method_11_code
def yX7_areActs : MethodName := ⟨RX7, "areActs", "(LRoundRules$Sheet;II)Z"⟩
abbrev cX7_ofDraft : ByteArray := prog_1_method_12_code
def yX7_ofDraft : MethodName := ⟨RX7, "ofDraft", "(I)I"⟩
abbrev cX7_heldInDraft : ByteArray := prog_1_method_13_code
def yX7_heldInDraft : MethodName := ⟨RX7, "heldInDraft", "(I)I"⟩
abbrev cX7_firstWrong : ByteArray := prog_1_method_14_code
def yX7_firstWrong : MethodName := ⟨RX7, "firstWrong", "(LRoundRules$Sheet;II)I"⟩
abbrev cX7_acts : ByteArray := prog_1_method_15_code
def yX7_acts : MethodName := ⟨RX7, "acts", "(III)Z"⟩
abbrev cX7_rounds : ByteArray := prog_1_method_16_code
def yX7_rounds : MethodName := ⟨RX7, "rounds", "()I"⟩
abbrev cX7_born : ByteArray := prog_1_method_17_code
def yX7_born : MethodName := ⟨RX7, "born", "(I)I"⟩
abbrev cX7_ranked : ByteArray := prog_1_method_18_code
def yX7_ranked : MethodName := ⟨RX7, "ranked", "(II)I"⟩
abbrev cX7_settled : ByteArray := prog_1_method_19_code
def yX7_settled : MethodName := ⟨RX7, "settled", "(I)I"⟩
abbrev cX7_demands : ByteArray := prog_1_method_20_code
def yX7_demands : MethodName := ⟨RX7, "demands", "(II)I"⟩
abbrev cX7_reading : ByteArray := prog_1_method_21_code
def yX7_reading : MethodName := ⟨RX7, "reading", "(IIII)I"⟩
abbrev cX7_back : ByteArray := prog_1_method_22_code
def yX7_back : MethodName := ⟨RX7, "back", "(I)I"⟩
abbrev cX7_kinds : ByteArray := prog_1_method_23_code
def yX7_kinds : MethodName := ⟨RX7, "kinds", "(I)I"⟩
abbrev cX7_forms : ByteArray := prog_1_method_24_code
def yX7_forms : MethodName := ⟨RX7, "forms", "(I)I"⟩
abbrev cX7_areReadingsSo : ByteArray := prog_1_method_25_code
def yX7_areReadingsSo : MethodName := ⟨RX7, "areReadingsSo", "()Z"⟩
abbrev cX7_odds : ByteArray := prog_1_method_26_code
def yX7_odds : MethodName := ⟨RX7, "odds", "(II)J"⟩
abbrev cX7_sheet : ByteArray := prog_1_method_27_code
def yX7_sheet : MethodName := ⟨RX7, "sheet", "(III)I"⟩
abbrev cX7_lose : ByteArray := prog_1_method_28_code
def yX7_lose : MethodName := ⟨RX7, "lose", "(I)I"⟩
abbrev cX7_put : ByteArray := prog_1_method_29_code
def yX7_put : MethodName := ⟨RX7, "put", "(III)I"⟩
abbrev cX7_cell : ByteArray := prog_1_method_30_code
def yX7_cell : MethodName := ⟨RX7, "cell", "(III)J"⟩
abbrev cX7_copy : ByteArray := prog_1_method_31_code
def yX7_copy : MethodName := ⟨RX7, "copy", "(IIIII)I"⟩
abbrev cX7_speak : ByteArray := prog_1_method_32_code
def yX7_speak : MethodName := ⟨RX7, "speak", "(I)I"⟩
abbrev cX7_plainTelling : ByteArray := prog_1_method_33_code
def yX7_plainTelling : MethodName := ⟨RX7, "plainTelling", "(I)I"⟩
abbrev cX7_bulkyTelling : ByteArray := prog_1_method_34_code
def yX7_bulkyTelling : MethodName := ⟨RX7, "bulkyTelling", "(I)I"⟩
abbrev cX7_doubleTelling : ByteArray := prog_1_method_35_code
def yX7_doubleTelling : MethodName := ⟨RX7, "doubleTelling", "(I)I"⟩
abbrev cX7_quote : ByteArray := prog_1_method_36_code
def yX7_quote : MethodName := ⟨RX7, "quote", "(I)I"⟩
abbrev cX7_leave : ByteArray := prog_1_method_37_code
def yX7_leave : MethodName := ⟨RX7, "leave", "(I)V"⟩
abbrev cX7_as : ByteArray := prog_1_method_38_code
def yX7_as : MethodName := ⟨RX7, "as", "(II)I"⟩
abbrev cX7_trace : ByteArray := prog_1_method_39_code
def yX7_trace : MethodName := ⟨RX7, "trace", "()I"⟩
abbrev cX7_fault : ByteArray := prog_1_method_40_code
def yX7_fault : MethodName := ⟨RX7, "fault", "()I"⟩
abbrev cX7_many : ByteArray := prog_1_method_41_code
def yX7_many : MethodName := ⟨RX7, "many", "(I)I"⟩
abbrev cX7_failed : ByteArray := prog_1_method_42_code
def yX7_failed : MethodName := ⟨RX7, "failed", "(I)I"⟩
abbrev cX7_isRelation : ByteArray := prog_1_method_43_code
def yX7_isRelation : MethodName := ⟨RX7, "isRelation", "(I)Z"⟩
abbrev cX7_isRule : ByteArray := prog_1_method_44_code
def yX7_isRule : MethodName := ⟨RX7, "isRule", "(I)Z"⟩
abbrev cX7_isSheet : ByteArray := prog_1_method_45_code
def yX7_isSheet : MethodName := ⟨RX7, "isSheet", "(I)Z"⟩
abbrev cX7_isLane : ByteArray := prog_1_method_46_code
def yX7_isLane : MethodName := ⟨RX7, "isLane", "(I)Z"⟩
abbrev cX7_isThing : ByteArray := prog_1_method_47_code
def yX7_isThing : MethodName := ⟨RX7, "isThing", "(I)Z"⟩
abbrev cX7_factOf : ByteArray := prog_1_method_48_code
def yX7_factOf : MethodName := ⟨RX7, "factOf", "(III)I"⟩
abbrev cX7_turnedAbout : ByteArray := prog_1_method_49_code
def yX7_turnedAbout : MethodName := ⟨RX7, "turnedAbout", "(I)I"⟩
abbrev cX7_rowOf : ByteArray := prog_1_method_50_code
def yX7_rowOf : MethodName := ⟨RX7, "rowOf", "(II)I"⟩
def RX8 : String := "RoundRulesModel"
def TX8 : u_T := fun k => match k with
  | 0 => ("RoundRulesModel", "fault", "I", false)
  | 1 => ("RoundRulesModel", "trace", "I", false)
  | 2 => ("RoundRulesModel", "sorts", "[I", true)
  | 3 => ("RoundRulesModel", "sheetLong", "[I", true)
  | 4 => ("RoundRulesModel", "cells", "[I", true)
  | 5 => ("RoundRulesModel", "relations", "I", false)
  | 6 => ("RoundRulesModel", "rules", "I", false)
  | 7 => ("RoundRulesModel", "kind", "[I", true)
  | 8 => ("RoundRulesModel", "price", "[I", true)
  | 9 => ("RoundRulesModel", "form", "[I", true)
  | 10 => ("RoundRulesModel", "head", "[I", true)
  | 11 => ("RoundRulesModel", "body", "[I", true)
  | 12 => ("RoundRulesModel", "other", "[I", true)
  | 13 => ("RoundRulesModel", "isTold", "[I", true)
  | 14 => ("RoundRulesModel", "at", "I", false)
  | 15 => ("RoundRulesModel", "readRelations", "I", false)
  | 16 => ("RoundRulesModel", "readRules", "I", false)
  | 17 => ("RoundRulesModel", "readFacts", "I", false)
  | 18 => ("RoundRulesModel", "read", "[I", true)
  | 19 => ("RoundRulesModel", "readFact", "[I", true)
  | 20 => ("RoundRulesModel", "keptRules", "[I", true)
  | 21 => ("RoundRulesModel", "layer", "[I", true)
  | 22 => ("RoundRulesModel", "holds", "[I", true)
  | 23 => ("RoundRulesModel", "then", "[I", true)
  | 24 => ("RoundRulesModel", "born", "[I", true)
  | 25 => ("RoundRulesModel", "rounds", "I", false)
  | 26 => ("RoundRulesModel", "cheap", "[I", true)
  | 27 => ("RoundRulesModel", "last", "[I", true)
  | 28 => ("RoundRulesModel", "middle", "[I", true)
  | 29 => ("RoundRulesModel", "keptTold", "[I", true)
  | 30 => ("RoundRulesModel", "keptForm", "[I", true)
  | 31 => ("RoundRulesModel", "readings", "I", false)
  | 32 => ("RoundRulesModel", "readOf", "[I", true)
  | _ => ("RoundRulesModel", "readCost", "[I", true)
def tyX8 : Nat → FieldType := fun k => match k with
  | 0 => .int
  | 1 => .int
  | 2 => .array .int
  | 3 => .array .int
  | 4 => .array .int
  | 5 => .int
  | 6 => .int
  | 7 => .array .int
  | 8 => .array .int
  | 9 => .array .int
  | 10 => .array .int
  | 11 => .array .int
  | 12 => .array .int
  | 13 => .array .int
  | 14 => .int
  | 15 => .int
  | 16 => .int
  | 17 => .int
  | 18 => .array .int
  | 19 => .array .int
  | 20 => .array .int
  | 21 => .array .int
  | 22 => .array .int
  | 23 => .array .int
  | 24 => .array .int
  | 25 => .int
  | 26 => .array .int
  | 27 => .array .int
  | 28 => .array .int
  | 29 => .array .int
  | 30 => .array .int
  | 31 => .int
  | 32 => .array .int
  | _ => .array .int
abbrev wsX80 : List Cond := u_ws RX8 TX8 34
theorem nmX8 : ∀ a, a < 34 → ∀ b, b < 34 → a ≠ b → (TX8 a).2.1 ≠ (TX8 b).2.1 := by decide +kernel
theorem tyX8_ok : ∀ k, k < 34 → parseFieldDescriptor (TX8 k).2.2.1 = some (tyX8 k) := by decide +kernel
abbrev cX8_init : ByteArray := prog_10_method_1_code
def yX8_init : MethodName := ⟨RX8, "<init>", "()V"⟩
abbrev cX8_fails : ByteArray := prog_10_method_3_code
def yX8_fails : MethodName := ⟨RX8, "fails", "(I)I"⟩
abbrev cX8_lost : ByteArray := prog_10_method_4_code
def yX8_lost : MethodName := ⟨RX8, "lost", "(I)J"⟩
abbrev cX8_within : ByteArray := prog_10_method_5_code
def yX8_within : MethodName := ⟨RX8, "within", "(III)Z"⟩
abbrev cX8_isSheet : ByteArray := prog_10_method_6_code
def yX8_isSheet : MethodName := ⟨RX8, "isSheet", "(I)Z"⟩
abbrev cX8_isSort : ByteArray := prog_10_method_7_code
def yX8_isSort : MethodName := ⟨RX8, "isSort", "(I)Z"⟩
abbrev cX8_against : ByteArray := prog_10_method_8_code
def yX8_against : MethodName := ⟨RX8, "against", "(IIII)I"⟩
abbrev cX8_isRelation : ByteArray := prog_10_method_9_code
def yX8_isRelation : MethodName := ⟨RX8, "isRelation", "(I)Z"⟩
abbrev cX8_isRule : ByteArray := prog_10_method_10_code
def yX8_isRule : MethodName := ⟨RX8, "isRule", "(I)Z"⟩
abbrev cX8_isThing : ByteArray := prog_10_method_11_code
def yX8_isThing : MethodName := ⟨RX8, "isThing", "(I)Z"⟩
abbrev cX8_isOf : ByteArray := prog_10_method_12_code
def yX8_isOf : MethodName := ⟨RX8, "isOf", "(II)Z"⟩
abbrev cX8_digit : ByteArray := prog_10_method_13_code
def yX8_digit : MethodName := ⟨RX8, "digit", "(III)I"⟩
abbrev cX8_isSign : ByteArray := prog_10_method_14_code
def yX8_isSign : MethodName := ⟨RX8, "isSign", "(II)Z"⟩
abbrev cX8_program : ByteArray := prog_10_method_15_code
def yX8_program : MethodName := ⟨RX8, "program", "(IIII)I"⟩
abbrev cX8_takeRules : ByteArray := prog_10_method_16_code
def yX8_takeRules : MethodName := ⟨RX8, "takeRules", "()V"⟩
abbrev cX8_keepRules : ByteArray := prog_10_method_17_code
def yX8_keepRules : MethodName := ⟨RX8, "keepRules", "()V"⟩
abbrev cX8_putRulesBack : ByteArray := prog_10_method_18_code
def yX8_putRulesBack : MethodName := ⟨RX8, "putRulesBack", "()V"⟩
abbrev cX8_readAll : ByteArray := prog_10_method_19_code
def yX8_readAll : MethodName := ⟨RX8, "readAll", "(I)Z"⟩
abbrev cX8_readRule : ByteArray := prog_10_method_20_code
def yX8_readRule : MethodName := ⟨RX8, "readRule", "(II)Z"⟩
abbrev cX8_readFactNext : ByteArray := prog_10_method_21_code
def yX8_readFactNext : MethodName := ⟨RX8, "readFactNext", "(I)Z"⟩
abbrev cX8_costOf : ByteArray := prog_10_method_22_code
def yX8_costOf : MethodName := ⟨RX8, "costOf", "(I)I"⟩
abbrev cX8_leads : ByteArray := prog_10_method_23_code
def yX8_leads : MethodName := ⟨RX8, "leads", "(I)I"⟩
abbrev cX8_goesRoundBy : ByteArray := prog_10_method_24_code
def yX8_goesRoundBy : MethodName := ⟨RX8, "goesRoundBy", "()I"⟩
abbrev cX8_findLayers : ByteArray := prog_10_method_25_code
def yX8_findLayers : MethodName := ⟨RX8, "findLayers", "()V"⟩
abbrev cX8_factOf : ByteArray := prog_10_method_26_code
def yX8_factOf : MethodName := ⟨RX8, "factOf", "(III)I"⟩
abbrev cX8_follows : ByteArray := prog_10_method_27_code
def yX8_follows : MethodName := ⟨RX8, "follows", "(III)Z"⟩
abbrev cX8_goesRound : ByteArray := prog_10_method_28_code
def yX8_goesRound : MethodName := ⟨RX8, "goesRound", "(I)Z"⟩
abbrev cX8_findHolds : ByteArray := prog_10_method_29_code
def yX8_findHolds : MethodName := ⟨RX8, "findHolds", "()V"⟩
abbrev cX8_costBy : ByteArray := prog_10_method_30_code
def yX8_costBy : MethodName := ⟨RX8, "costBy", "(IIII)I"⟩
abbrev cX8_getsCheaper : ByteArray := prog_10_method_31_code
def yX8_getsCheaper : MethodName := ⟨RX8, "getsCheaper", "(I)Z"⟩
abbrev cX8_findLast : ByteArray := prog_10_method_32_code
def yX8_findLast : MethodName := ⟨RX8, "findLast", "(I)V"⟩
abbrev cX8_findCheap : ByteArray := prog_10_method_33_code
def yX8_findCheap : MethodName := ⟨RX8, "findCheap", "()V"⟩
abbrev cX8_countHeld : ByteArray := prog_10_method_34_code
def yX8_countHeld : MethodName := ⟨RX8, "countHeld", "(I)I"⟩
abbrev cX8_countTold : ByteArray := prog_10_method_35_code
def yX8_countTold : MethodName := ⟨RX8, "countTold", "(I)I"⟩
abbrev cX8_ofRule : ByteArray := prog_10_method_36_code
def yX8_ofRule : MethodName := ⟨RX8, "ofRule", "(II)I"⟩
abbrev cX8_ofRelation : ByteArray := prog_10_method_37_code
def yX8_ofRelation : MethodName := ⟨RX8, "ofRelation", "(II)I"⟩
abbrev cX8_gets : ByteArray := prog_10_method_38_code
def yX8_gets : MethodName := ⟨RX8, "gets", "(II)Z"⟩
abbrev cX8_isForm : ByteArray := prog_10_method_39_code
def yX8_isForm : MethodName := ⟨RX8, "isForm", "(II)Z"⟩
abbrev cX8_form : ByteArray := prog_10_method_40_code
def yX8_form : MethodName := ⟨RX8, "form", "(II)I"⟩
abbrev cX8_tell : ByteArray := prog_10_method_41_code
def yX8_tell : MethodName := ⟨RX8, "tell", "(III)I"⟩
abbrev cX8_ofFact : ByteArray := prog_10_method_42_code
def yX8_ofFact : MethodName := ⟨RX8, "ofFact", "(IIII)I"⟩
abbrev cX8_does : ByteArray := prog_10_method_43_code
def yX8_does : MethodName := ⟨RX8, "does", "(I)Z"⟩
abbrev cX8_goDay : ByteArray := prog_10_method_44_code
def yX8_goDay : MethodName := ⟨RX8, "goDay", "(II)I"⟩
abbrev cX8_day : ByteArray := prog_10_method_45_code
def yX8_day : MethodName := ⟨RX8, "day", "(IIIII)I"⟩
abbrev cX8_tellDay : ByteArray := prog_10_method_46_code
def yX8_tellDay : MethodName := ⟨RX8, "tellDay", "(I)I"⟩
abbrev cX8_allHeld : ByteArray := prog_10_method_47_code
def yX8_allHeld : MethodName := ⟨RX8, "allHeld", "()I"⟩
abbrev cX8_allTold : ByteArray := prog_10_method_48_code
def yX8_allTold : MethodName := ⟨RX8, "allTold", "()I"⟩
abbrev cX8_rounds : ByteArray := prog_10_method_49_code
def yX8_rounds : MethodName := ⟨RX8, "rounds", "()I"⟩
abbrev cX8_born : ByteArray := prog_10_method_50_code
def yX8_born : MethodName := ⟨RX8, "born", "(I)I"⟩
abbrev cX8_isCheaper : ByteArray := prog_10_method_51_code
def yX8_isCheaper : MethodName := ⟨RX8, "isCheaper", "(II)Z"⟩
abbrev cX8_ranked : ByteArray := prog_10_method_52_code
def yX8_ranked : MethodName := ⟨RX8, "ranked", "(II)I"⟩
abbrev cX8_settled : ByteArray := prog_10_method_53_code
def yX8_settled : MethodName := ⟨RX8, "settled", "(I)I"⟩
abbrev cX8_demandsOf : ByteArray := prog_10_method_54_code
def yX8_demandsOf : MethodName := ⟨RX8, "demandsOf", "(II)I"⟩
abbrev cX8_demands : ByteArray := prog_10_method_55_code
def yX8_demands : MethodName := ⟨RX8, "demands", "(II)I"⟩
abbrev cX8_reading : ByteArray := prog_10_method_56_code
def yX8_reading : MethodName := ⟨RX8, "reading", "(IIII)I"⟩
abbrev cX8_back : ByteArray := prog_10_method_57_code
def yX8_back : MethodName := ⟨RX8, "back", "(I)I"⟩
abbrev cX8_areSo : ByteArray := prog_10_method_58_code
def yX8_areSo : MethodName := ⟨RX8, "areSo", "()Z"⟩
abbrev cX8_kinds : ByteArray := prog_10_method_59_code
def yX8_kinds : MethodName := ⟨RX8, "kinds", "(I)I"⟩
abbrev cX8_forms : ByteArray := prog_10_method_60_code
def yX8_forms : MethodName := ⟨RX8, "forms", "(I)I"⟩
abbrev cX8_inLeastTerms : ByteArray := prog_10_method_61_code
def yX8_inLeastTerms : MethodName := ⟨RX8, "inLeastTerms", "(JJI)J"⟩
abbrev cX8_odds : ByteArray := prog_10_method_62_code
def yX8_odds : MethodName := ⟨RX8, "odds", "(II)J"⟩
abbrev cX8_sheet : ByteArray := prog_10_method_63_code
def yX8_sheet : MethodName := ⟨RX8, "sheet", "(III)I"⟩
abbrev cX8_lose : ByteArray := prog_10_method_64_code
def yX8_lose : MethodName := ⟨RX8, "lose", "(I)I"⟩
abbrev cX8_put : ByteArray := prog_10_method_65_code
def yX8_put : MethodName := ⟨RX8, "put", "(III)I"⟩
abbrev cX8_cell : ByteArray := prog_10_method_66_code
def yX8_cell : MethodName := ⟨RX8, "cell", "(III)J"⟩
abbrev cX8_copy : ByteArray := prog_10_method_67_code
def yX8_copy : MethodName := ⟨RX8, "copy", "(IIIII)I"⟩
abbrev cX8_begins : ByteArray := prog_10_method_68_code
def yX8_begins : MethodName := ⟨RX8, "begins", "(I)V"⟩
abbrev cX8_speak : ByteArray := prog_10_method_69_code
def yX8_speak : MethodName := ⟨RX8, "speak", "(I)I"⟩
abbrev cX8_quote : ByteArray := prog_10_method_70_code
def yX8_quote : MethodName := ⟨RX8, "quote", "(I)I"⟩
abbrev cX8_as : ByteArray := prog_10_method_71_code
def yX8_as : MethodName := ⟨RX8, "as", "(II)I"⟩
abbrev cX8_trace : ByteArray := prog_10_method_72_code
def yX8_trace : MethodName := ⟨RX8, "trace", "()I"⟩
abbrev cX8_fault : ByteArray := prog_10_method_73_code
def yX8_fault : MethodName := ⟨RX8, "fault", "()I"⟩
abbrev cX8_many : ByteArray := prog_10_method_74_code
def yX8_many : MethodName := ⟨RX8, "many", "(I)I"⟩
def RJx145de : String := "java/io/Serializable"
def TJx145de : u_T := fun k => match k with
  | _ => ("", "", "", false)
def tyJx145de : Nat → FieldType := fun k => match k with
  | _ => .int
abbrev wsJx145de0 : List Cond := u_ws RJx145de TJx145de 0
theorem nmJx145de : ∀ a, a < 0 → ∀ b, b < 0 → a ≠ b → (TJx145de a).2.1 ≠ (TJx145de b).2.1 := by decide +kernel
theorem tyJx145de_ok : ∀ k, k < 0 → parseFieldDescriptor (TJx145de k).2.2.1 = some (tyJx145de k) := by decide +kernel
def RJx9f9b0 : String := "java/lang/CharSequence"
def TJx9f9b0 : u_T := fun k => match k with
  | _ => ("", "", "", false)
def tyJx9f9b0 : Nat → FieldType := fun k => match k with
  | _ => .int
abbrev wsJx9f9b00 : List Cond := u_ws RJx9f9b0 TJx9f9b0 0
theorem nmJx9f9b0 : ∀ a, a < 0 → ∀ b, b < 0 → a ≠ b → (TJx9f9b0 a).2.1 ≠ (TJx9f9b0 b).2.1 := by decide +kernel
theorem tyJx9f9b0_ok : ∀ k, k < 0 → parseFieldDescriptor (TJx9f9b0 k).2.2.1 = some (tyJx9f9b0 k) := by decide +kernel
def RJxb160c : String := "java/lang/Comparable"
def TJxb160c : u_T := fun k => match k with
  | _ => ("", "", "", false)
def tyJxb160c : Nat → FieldType := fun k => match k with
  | _ => .int
abbrev wsJxb160c0 : List Cond := u_ws RJxb160c TJxb160c 0
theorem nmJxb160c : ∀ a, a < 0 → ∀ b, b < 0 → a ≠ b → (TJxb160c a).2.1 ≠ (TJxb160c b).2.1 := by decide +kernel
theorem tyJxb160c_ok : ∀ k, k < 0 → parseFieldDescriptor (TJxb160c k).2.2.1 = some (tyJxb160c k) := by decide +kernel
def RJ6 : String := "java/lang/Integer"
def TJ6 : u_T := fun k => match k with
  | _ => ("", "", "", false)
def tyJ6 : Nat → FieldType := fun k => match k with
  | _ => .int
abbrev wsJ60 : List Cond := u_ws RJ6 TJ6 0
theorem nmJ6 : ∀ a, a < 0 → ∀ b, b < 0 → a ≠ b → (TJ6 a).2.1 ≠ (TJ6 b).2.1 := by decide +kernel
theorem tyJ6_ok : ∀ k, k < 0 → parseFieldDescriptor (TJ6 k).2.2.1 = some (tyJ6 k) := by decide +kernel
abbrev cJ6_bitCount_0f7a4 : ByteArray := prog_11_method_49_code
def yJ6_bitCount_0f7a4 : MethodName := ⟨RJ6, "bitCount", "(I)I"⟩
def RJ9 : String := "java/lang/Math"
def TJ9 : u_T := fun k => match k with
  | _ => ("", "", "", false)
def tyJ9 : Nat → FieldType := fun k => match k with
  | _ => .int
abbrev wsJ90 : List Cond := u_ws RJ9 TJ9 0
theorem nmJ9 : ∀ a, a < 0 → ∀ b, b < 0 → a ≠ b → (TJ9 a).2.1 ≠ (TJ9 b).2.1 := by decide +kernel
theorem tyJ9_ok : ∀ k, k < 0 → parseFieldDescriptor (TJ9 k).2.2.1 = some (tyJ9 k) := by decide +kernel
abbrev cJ9_max_7cf53 : ByteArray := prog_12_method_65_code
def yJ9_max_7cf53 : MethodName := ⟨RJ9, "max", "(II)I"⟩
abbrev cJ9_max_f86c9 : ByteArray := prog_12_method_66_code
def yJ9_max_f86c9 : MethodName := ⟨RJ9, "max", "(JJ)J"⟩
abbrev cJ9_min_f86c9 : ByteArray := prog_12_method_70_code
def yJ9_min_f86c9 : MethodName := ⟨RJ9, "min", "(JJ)J"⟩
def RJ0 : String := "java/lang/String"
def TJ0 : u_T := fun k => match k with
  | _ => ("", "", "", false)
def tyJ0 : Nat → FieldType := fun k => match k with
  | _ => .int
abbrev wsJ00 : List Cond := u_ws RJ0 TJ0 0
theorem nmJ0 : ∀ a, a < 0 → ∀ b, b < 0 → a ≠ b → (TJ0 a).2.1 ≠ (TJ0 b).2.1 := by decide +kernel
theorem tyJ0_ok : ∀ k, k < 0 → parseFieldDescriptor (TJ0 k).2.2.1 = some (tyJ0 k) := by decide +kernel
abbrev cJ0_length_8abf5 : ByteArray := prog_13_method_54_code
def yJ0_length_8abf5 : MethodName := ⟨RJ0, "length", "()I"⟩
abbrev cJ0_charAt_5068e : ByteArray := prog_13_method_56_code
def yJ0_charAt_5068e : MethodName := ⟨RJ0, "charAt", "(I)C"⟩
abbrev cJ0_coder_7d493 : ByteArray := prog_13_method_152_code
def yJ0_coder_7d493 : MethodName := ⟨RJ0, "coder", "()B"⟩
abbrev cJ0_isLatin1_aae02 : ByteArray := prog_13_method_154_code
def yJ0_isLatin1_aae02 : MethodName := ⟨RJ0, "isLatin1", "()Z"⟩
abbrev cJ0_checkIndex_df160 : ByteArray := prog_13_method_155_code
def yJ0_checkIndex_df160 : MethodName := ⟨RJ0, "checkIndex", "(II)V"⟩
def RJ1 : String := "java/lang/StringLatin1"
def TJ1 : u_T := fun k => match k with
  | _ => ("", "", "", false)
def tyJ1 : Nat → FieldType := fun k => match k with
  | _ => .int
abbrev wsJ10 : List Cond := u_ws RJ1 TJ1 0
theorem nmJ1 : ∀ a, a < 0 → ∀ b, b < 0 → a ≠ b → (TJ1 a).2.1 ≠ (TJ1 b).2.1 := by decide +kernel
theorem tyJ1_ok : ∀ k, k < 0 → parseFieldDescriptor (TJ1 k).2.2.1 = some (tyJ1 k) := by decide +kernel
abbrev cJ1_charAt_3b067 : ByteArray := prog_14_method_2_code
def yJ1_charAt_3b067 : MethodName := ⟨RJ1, "charAt", "([BI)C"⟩
def RJ2 : String := "java/lang/StringUTF16"
def TJ2 : u_T := fun k => match k with
  | _ => ("", "", "", false)
def tyJ2 : Nat → FieldType := fun k => match k with
  | _ => .int
abbrev wsJ20 : List Cond := u_ws RJ2 TJ2 0
theorem nmJ2 : ∀ a, a < 0 → ∀ b, b < 0 → a ≠ b → (TJ2 a).2.1 ≠ (TJ2 b).2.1 := by decide +kernel
theorem tyJ2_ok : ∀ k, k < 0 → parseFieldDescriptor (TJ2 k).2.2.1 = some (tyJ2 k) := by decide +kernel
abbrev cJ2_getChar_3b067 : ByteArray := prog_15_method_5_code
def yJ2_getChar_3b067 : MethodName := ⟨RJ2, "getChar", "([BI)C"⟩
abbrev cJ2_length_9d52b : ByteArray := prog_15_method_6_code
def yJ2_length_9d52b : MethodName := ⟨RJ2, "length", "([B)I"⟩
abbrev cJ2_charAt_3b067 : ByteArray := prog_15_method_83_code
def yJ2_charAt_3b067 : MethodName := ⟨RJ2, "charAt", "([BI)C"⟩
abbrev cJ2_checkIndex_2214a : ByteArray := prog_15_method_91_code
def yJ2_checkIndex_2214a : MethodName := ⟨RJ2, "checkIndex", "(I[B)V"⟩
def RJ10 : String := "java/lang/System"
def TJ10 : u_T := fun k => match k with
  | _ => ("", "", "", false)
def tyJ10 : Nat → FieldType := fun k => match k with
  | _ => .int
abbrev wsJ100 : List Cond := u_ws RJ10 TJ10 0
theorem nmJ10 : ∀ a, a < 0 → ∀ b, b < 0 → a ≠ b → (TJ10 a).2.1 ≠ (TJ10 b).2.1 := by decide +kernel
theorem tyJ10_ok : ∀ k, k < 0 → parseFieldDescriptor (TJ10 k).2.2.1 = some (tyJ10 k) := by decide +kernel
def RJxfd54e : String := "java/lang/constant/Constable"
def TJxfd54e : u_T := fun k => match k with
  | _ => ("", "", "", false)
def tyJxfd54e : Nat → FieldType := fun k => match k with
  | _ => .int
abbrev wsJxfd54e0 : List Cond := u_ws RJxfd54e TJxfd54e 0
theorem nmJxfd54e : ∀ a, a < 0 → ∀ b, b < 0 → a ≠ b → (TJxfd54e a).2.1 ≠ (TJxfd54e b).2.1 := by decide +kernel
theorem tyJxfd54e_ok : ∀ k, k < 0 → parseFieldDescriptor (TJxfd54e k).2.2.1 = some (tyJxfd54e k) := by decide +kernel
def RJx3cf43 : String := "java/lang/constant/ConstantDesc"
def TJx3cf43 : u_T := fun k => match k with
  | _ => ("", "", "", false)
def tyJx3cf43 : Nat → FieldType := fun k => match k with
  | _ => .int
abbrev wsJx3cf430 : List Cond := u_ws RJx3cf43 TJx3cf43 0
theorem nmJx3cf43 : ∀ a, a < 0 → ∀ b, b < 0 → a ≠ b → (TJx3cf43 a).2.1 ≠ (TJx3cf43 b).2.1 := by decide +kernel
theorem tyJx3cf43_ok : ∀ k, k < 0 → parseFieldDescriptor (TJx3cf43 k).2.2.1 = some (tyJx3cf43 k) := by decide +kernel
def RJ7 : String := "java/util/Arrays"
def TJ7 : u_T := fun k => match k with
  | _ => ("", "", "", false)
def tyJ7 : Nat → FieldType := fun k => match k with
  | _ => .int
abbrev wsJ70 : List Cond := u_ws RJ7 TJ7 0
theorem nmJ7 : ∀ a, a < 0 → ∀ b, b < 0 → a ≠ b → (TJ7 a).2.1 ≠ (TJ7 b).2.1 := by decide +kernel
theorem tyJ7_ok : ∀ k, k < 0 → parseFieldDescriptor (TJ7 k).2.2.1 = some (tyJ7 k) := by decide +kernel
abbrev cJ7_fill_53178 : ByteArray := prog_17_method_103_code
def yJ7_fill_53178 : MethodName := ⟨RJ7, "fill", "([II)V"⟩
def RJ3 : String := "jdk/internal/util/Preconditions"
def TJ3 : u_T := fun k => match k with
  | _ => ("", "", "", false)
def tyJ3 : Nat → FieldType := fun k => match k with
  | _ => .int
abbrev wsJ30 : List Cond := u_ws RJ3 TJ3 0
theorem nmJ3 : ∀ a, a < 0 → ∀ b, b < 0 → a ≠ b → (TJ3 a).2.1 ≠ (TJ3 b).2.1 := by decide +kernel
theorem tyJ3_ok : ∀ k, k < 0 → parseFieldDescriptor (TJ3 k).2.2.1 = some (tyJ3 k) := by decide +kernel
abbrev cJ3_checkIndex_8e157 : ByteArray := prog_18_method_11_code
def yJ3_checkIndex_8e157 : MethodName := ⟨RJ3, "checkIndex", "(IILjava/util/function/BiFunction;)I"⟩
def RL : String := "RoundRulesLaw"
abbrev cL_law : ByteArray := code
def yL_law : MethodName := ⟨RL, "law", "([I)Z"⟩
abbrev vwCl : List vw_C := [(RX0, TX0, 7), (RX1, TX1, 3), (RX2, TX2, 9), (RX3, TX3, 6), (RX4, TX4, 4), (RX5, TX5, 4), (RX6, TX6, 5), (RX7, TX7, 9), (RX8, TX8, 34)]
