/-! ===== BEGIN words of one list among another's, by their places ===== -/
theorem goodIn_r {big : List Cond} (ws : List Cond) (ps : List Nat) (hp : ws = ps.filterMap (fun i => big[i]?)) (h : ws.all goodWord = true) : GoodIn big ws := by
  intro w hw
  have h1 := List.all_eq_true.mp h w hw
  rw [hp] at hw
  obtain ⟨i, -, hi⟩ := List.mem_filterMap.mp hw
  have hm : w ∈ big := by first | exact List.mem_of_getElem? hi | exact List.getElem?_mem hi
  exact ⟨hm, good_of_word h1⟩
theorem goodIn_app {big a b : List Cond} (ha : GoodIn big a) (hb : GoodIn big b) : GoodIn big (a ++ b) := fun w h => (List.mem_append.mp h).elim (ha w) (hb w)
theorem goodIn_ca {big a b : List Cond} {c : Cond} (ha : GoodIn big (c :: a)) (hb : GoodIn big b) : GoodIn big (c :: (a ++ b)) := fun w h => (List.mem_cons.mp h).elim (fun e => ha w (List.mem_cons.mpr (Or.inl e))) (fun h => (List.mem_append.mp h).elim (fun h => ha w (List.mem_cons.mpr (Or.inr h))) (hb w))
theorem goodIn_sub {big ws : List Cond} (hm : ∀ w ∈ ws, w ∈ big) (h : ws.all goodWord = true) : GoodIn big ws := fun w hw => ⟨hm w hw, good_of_word (List.all_eq_true.mp h w hw)⟩
/-! ===== END ===== -/
def RX0 : String := "HalfAccuser$City"
def TX0 : u_T := fun k => match k with
  | 0 => ("HalfAccuser$City", "rules", "[I", true)
  | 1 => ("HalfAccuser$City", "personNames", "[J", true)
  | 2 => ("HalfAccuser$City", "coins", "[I", true)
  | 3 => ("HalfAccuser$City", "skills", "[I", true)
  | 4 => ("HalfAccuser$City", "wonCounts", "[I", true)
  | 5 => ("HalfAccuser$City", "owedCounts", "[I", true)
  | 6 => ("HalfAccuser$City", "dropped", "[I", true)
  | 7 => ("HalfAccuser$City", "deedNames", "[J", true)
  | 8 => ("HalfAccuser$City", "owners", "[I", true)
  | 9 => ("HalfAccuser$City", "fines", "[I", true)
  | 10 => ("HalfAccuser$City", "odds", "[I", true)
  | 11 => ("HalfAccuser$City", "states", "[I", true)
  | 12 => ("HalfAccuser$City", "accusers", "[I", true)
  | 13 => ("HalfAccuser$City", "votesFor", "[I", true)
  | 14 => ("HalfAccuser$City", "years", "LHalfAccuser$Years;", true)
  | 15 => ("HalfAccuser$City", "people", "I", false)
  | 16 => ("HalfAccuser$City", "deeds", "I", false)
  | 17 => ("HalfAccuser$City", "treasury", "I", false)
  | _ => ("HalfAccuser$City", "heard", "I", false)
def tyX0 : Nat → FieldType := fun k => match k with
  | 0 => .array .int
  | 1 => .array .long
  | 2 => .array .int
  | 3 => .array .int
  | 4 => .array .int
  | 5 => .array .int
  | 6 => .array .int
  | 7 => .array .long
  | 8 => .array .int
  | 9 => .array .int
  | 10 => .array .int
  | 11 => .array .int
  | 12 => .array .int
  | 13 => .array .int
  | 14 => .object "HalfAccuser$Years"
  | 15 => .int
  | 16 => .int
  | 17 => .int
  | _ => .int
abbrev wsX00 : List Cond := u_ws RX0 TX0 19
theorem nmX0 : ∀ a, a < 19 → ∀ b, b < 19 → a ≠ b → (TX0 a).2.1 ≠ (TX0 b).2.1 := by decide +kernel
theorem tyX0_ok : ∀ k, k < 19 → parseFieldDescriptor (TX0 k).2.2.1 = some (tyX0 k) := by decide +kernel
abbrev cX0_init : ByteArray := prog_2_method_1_code
def yX0_init : MethodName := ⟨RX0, "<init>", "()V"⟩
abbrev cX0_clear : ByteArray := prog_2_method_2_code
def yX0_clear : MethodName := ⟨RX0, "clear", "()V"⟩
abbrev cX0_copyFrom : ByteArray := prog_2_method_3_code
def yX0_copyFrom : MethodName := ⟨RX0, "copyFrom", "(LHalfAccuser$City;)V"⟩
abbrev cX0_addPerson : ByteArray := prog_2_method_4_code
def yX0_addPerson : MethodName := ⟨RX0, "addPerson", "(J)I"⟩
abbrev cX0_addDeed : ByteArray := prog_2_method_5_code
def yX0_addDeed : MethodName := ⟨RX0, "addDeed", "(JIII)I"⟩
abbrev cX0_personBy : ByteArray := prog_2_method_6_code
def yX0_personBy : MethodName := ⟨RX0, "personBy", "(J)I"⟩
abbrev cX0_deedBy : ByteArray := prog_2_method_7_code
def yX0_deedBy : MethodName := ⟨RX0, "deedBy", "(J)I"⟩
abbrev cX0_ruleOf : ByteArray := prog_2_method_8_code
def yX0_ruleOf : MethodName := ⟨RX0, "ruleOf", "(I)I"⟩
abbrev cX0_hasPerson : ByteArray := prog_2_method_9_code
def yX0_hasPerson : MethodName := ⟨RX0, "hasPerson", "(I)Z"⟩
abbrev cX0_hasDeed : ByteArray := prog_2_method_10_code
def yX0_hasDeed : MethodName := ⟨RX0, "hasDeed", "(I)Z"⟩
abbrev cX0_isSet : ByteArray := prog_2_method_11_code
def yX0_isSet : MethodName := ⟨RX0, "isSet", "(I)Z"⟩
abbrev cX0_isRuined : ByteArray := prog_2_method_12_code
def yX0_isRuined : MethodName := ⟨RX0, "isRuined", "(I)Z"⟩
abbrev cX0_isOpen : ByteArray := prog_2_method_13_code
def yX0_isOpen : MethodName := ⟨RX0, "isOpen", "(I)Z"⟩
abbrev cX0_isOwn : ByteArray := prog_2_method_14_code
def yX0_isOwn : MethodName := ⟨RX0, "isOwn", "(II)Z"⟩
abbrev cX0_mayCharge : ByteArray := prog_2_method_15_code
def yX0_mayCharge : MethodName := ⟨RX0, "mayCharge", "(II)Z"⟩
abbrev cX0_mayDrop : ByteArray := prog_2_method_16_code
def yX0_mayDrop : MethodName := ⟨RX0, "mayDrop", "(III)Z"⟩
abbrev cX0_chanceOf : ByteArray := prog_2_method_17_code
def yX0_chanceOf : MethodName := ⟨RX0, "chanceOf", "(II)I"⟩
abbrev cX0_give : ByteArray := prog_2_method_18_code
def yX0_give : MethodName := ⟨RX0, "give", "(II)V"⟩
abbrev cX0_fillTreasury : ByteArray := prog_2_method_19_code
def yX0_fillTreasury : MethodName := ⟨RX0, "fillTreasury", "(I)V"⟩
abbrev cX0_decide : ByteArray := prog_2_method_20_code
def yX0_decide : MethodName := ⟨RX0, "decide", "(III)I"⟩
abbrev cX0_settle : ByteArray := prog_2_method_21_code
def yX0_settle : MethodName := ⟨RX0, "settle", "(III)V"⟩
abbrev cX0_openAgain : ByteArray := prog_2_method_22_code
def yX0_openAgain : MethodName := ⟨RX0, "openAgain", "(I)V"⟩
abbrev cX0_partOf : ByteArray := prog_2_method_23_code
def yX0_partOf : MethodName := ⟨RX0, "partOf", "(II)I"⟩
abbrev cX0_openDeeds : ByteArray := prog_2_method_24_code
def yX0_openDeeds : MethodName := ⟨RX0, "openDeeds", "()I"⟩
abbrev cX0_deedsThat : ByteArray := prog_2_method_25_code
def yX0_deedsThat : MethodName := ⟨RX0, "deedsThat", "(I)I"⟩
abbrev cX0_deedsOf : ByteArray := prog_2_method_26_code
def yX0_deedsOf : MethodName := ⟨RX0, "deedsOf", "(I)I"⟩
abbrev cX0_ruinedPeople : ByteArray := prog_2_method_27_code
def yX0_ruinedPeople : MethodName := ⟨RX0, "ruinedPeople", "()I"⟩
abbrev cX0_fact : ByteArray := prog_2_method_28_code
def yX0_fact : MethodName := ⟨RX0, "fact", "(I)I"⟩
abbrev cX0_personFact : ByteArray := prog_2_method_29_code
def yX0_personFact : MethodName := ⟨RX0, "personFact", "(II)I"⟩
abbrev cX0_deedFact : ByteArray := prog_2_method_30_code
def yX0_deedFact : MethodName := ⟨RX0, "deedFact", "(II)I"⟩
def RX1 : String := "HalfAccuser$CityReader"
def TX1 : u_T := fun k => match k with
  | 0 => ("HalfAccuser$CityReader", "tape", "LHalfAccuser$Tape;", true)
  | 1 => ("HalfAccuser$CityReader", "draft", "LHalfAccuser$City;", true)
  | _ => ("HalfAccuser$CityReader", "rulesTold", "I", false)
def tyX1 : Nat → FieldType := fun k => match k with
  | 0 => .object "HalfAccuser$Tape"
  | 1 => .object "HalfAccuser$City"
  | _ => .int
abbrev wsX10 : List Cond := u_ws RX1 TX1 3
theorem nmX1 : ∀ a, a < 3 → ∀ b, b < 3 → a ≠ b → (TX1 a).2.1 ≠ (TX1 b).2.1 := by decide +kernel
theorem tyX1_ok : ∀ k, k < 3 → parseFieldDescriptor (TX1 k).2.2.1 = some (tyX1 k) := by decide +kernel
abbrev cX1_init : ByteArray := prog_3_method_1_code
def yX1_init : MethodName := ⟨RX1, "<init>", "(LHalfAccuser$Tape;LHalfAccuser$City;)V"⟩
abbrev cX1_readText : ByteArray := prog_3_method_2_code
def yX1_readText : MethodName := ⟨RX1, "readText", "()Z"⟩
abbrev cX1_readRule : ByteArray := prog_3_method_3_code
def yX1_readRule : MethodName := ⟨RX1, "readRule", "(I)Z"⟩
abbrev cX1_readPerson : ByteArray := prog_3_method_4_code
def yX1_readPerson : MethodName := ⟨RX1, "readPerson", "()Z"⟩
abbrev cX1_readDeed : ByteArray := prog_3_method_5_code
def yX1_readDeed : MethodName := ⟨RX1, "readDeed", "()Z"⟩
abbrev cX1_takeWordAndNumber : ByteArray := prog_3_method_6_code
def yX1_takeWordAndNumber : MethodName := ⟨RX1, "takeWordAndNumber", "(III)Z"⟩
abbrev cX1_takeNewName : ByteArray := prog_3_method_7_code
def yX1_takeNewName : MethodName := ⟨RX1, "takeNewName", "()Z"⟩
def RX2 : String := "HalfAccuser$Games"
def TX2 : u_T := fun k => match k with
  | 0 => ("HalfAccuser$Games", "city", "LHalfAccuser$City;", true)
  | 1 => ("HalfAccuser$Games", "hopes", "LHalfAccuser$Hopes;", true)
  | 2 => ("HalfAccuser$Games", "movers", "[I", true)
  | 3 => ("HalfAccuser$Games", "worths", "[J", true)
  | 4 => ("HalfAccuser$Games", "dreads", "[J", true)
  | _ => ("HalfAccuser$Games", "turns", "I", false)
def tyX2 : Nat → FieldType := fun k => match k with
  | 0 => .object "HalfAccuser$City"
  | 1 => .object "HalfAccuser$Hopes"
  | 2 => .array .int
  | 3 => .array .long
  | 4 => .array .long
  | _ => .int
abbrev wsX20 : List Cond := u_ws RX2 TX2 6
theorem nmX2 : ∀ a, a < 6 → ∀ b, b < 6 → a ≠ b → (TX2 a).2.1 ≠ (TX2 b).2.1 := by decide +kernel
theorem tyX2_ok : ∀ k, k < 6 → parseFieldDescriptor (TX2 k).2.2.1 = some (tyX2 k) := by decide +kernel
abbrev cX2_init : ByteArray := prog_4_method_1_code
def yX2_init : MethodName := ⟨RX2, "<init>", "(LHalfAccuser$City;LHalfAccuser$Hopes;)V"⟩
abbrev cX2_setGame : ByteArray := prog_4_method_2_code
def yX2_setGame : MethodName := ⟨RX2, "setGame", "(III)V"⟩
abbrev cX2_outcome : ByteArray := prog_4_method_3_code
def yX2_outcome : MethodName := ⟨RX2, "outcome", "()J"⟩
abbrev cX2_play : ByteArray := prog_4_method_4_code
def yX2_play : MethodName := ⟨RX2, "play", "(LHalfAccuser$Games;II)J"⟩
abbrev cX2_firstMove : ByteArray := prog_4_method_5_code
def yX2_firstMove : MethodName := ⟨RX2, "firstMove", "()I"⟩
abbrev cX2_setClub : ByteArray := prog_4_method_6_code
def yX2_setClub : MethodName := ⟨RX2, "setClub", "()V"⟩
abbrev cX2_sumOfDreads : ByteArray := prog_4_method_7_code
def yX2_sumOfDreads : MethodName := ⟨RX2, "sumOfDreads", "(I)J"⟩
abbrev cX2_stayers : ByteArray := prog_4_method_8_code
def yX2_stayers : MethodName := ⟨RX2, "stayers", "(I)I"⟩
abbrev cX2_leavers : ByteArray := prog_4_method_9_code
def yX2_leavers : MethodName := ⟨RX2, "leavers", "(I)I"⟩
def RX3 : String := "HalfAccuser$Hopes"
def TX3 : u_T := fun k => match k with
  | 0 => ("HalfAccuser$Hopes", "city", "LHalfAccuser$City;", true)
  | 1 => ("HalfAccuser$Hopes", "ways", "[J", true)
  | 2 => ("HalfAccuser$Hopes", "winsBy", "[J", true)
  | 3 => ("HalfAccuser$Hopes", "debtsBy", "[J", true)
  | 4 => ("HalfAccuser$Hopes", "wins", "[J", true)
  | 5 => ("HalfAccuser$Hopes", "debts", "[J", true)
  | 6 => ("HalfAccuser$Hopes", "gains", "[J", true)
  | 7 => ("HalfAccuser$Hopes", "losses", "[J", true)
  | 8 => ("HalfAccuser$Hopes", "within", "[I", true)
  | _ => ("HalfAccuser$Hopes", "sorted", "[J", true)
def tyX3 : Nat → FieldType := fun k => match k with
  | 0 => .object "HalfAccuser$City"
  | 1 => .array .long
  | 2 => .array .long
  | 3 => .array .long
  | 4 => .array .long
  | 5 => .array .long
  | 6 => .array .long
  | 7 => .array .long
  | 8 => .array .int
  | _ => .array .long
abbrev wsX30 : List Cond := u_ws RX3 TX3 10
theorem nmX3 : ∀ a, a < 10 → ∀ b, b < 10 → a ≠ b → (TX3 a).2.1 ≠ (TX3 b).2.1 := by decide +kernel
theorem tyX3_ok : ∀ k, k < 10 → parseFieldDescriptor (TX3 k).2.2.1 = some (tyX3 k) := by decide +kernel
abbrev cX3_init : ByteArray := prog_5_method_1_code
def yX3_init : MethodName := ⟨RX3, "<init>", "(LHalfAccuser$City;)V"⟩
abbrev cX3_whole : ByteArray := prog_5_method_2_code
def yX3_whole : MethodName := ⟨RX3, "whole", "()J"⟩
abbrev cX3_weigh : ByteArray := prog_5_method_3_code
def yX3_weigh : MethodName := ⟨RX3, "weigh", "(I)V"⟩
abbrev cX3_waysToWin : ByteArray := prog_5_method_4_code
def yX3_waysToWin : MethodName := ⟨RX3, "waysToWin", "()J"⟩
abbrev cX3_waysToOwe : ByteArray := prog_5_method_5_code
def yX3_waysToOwe : MethodName := ⟨RX3, "waysToOwe", "()J"⟩
abbrev cX3_see : ByteArray := prog_5_method_6_code
def yX3_see : MethodName := ⟨RX3, "see", "()V"⟩
abbrev cX3_seeCharge : ByteArray := prog_5_method_7_code
def yX3_seeCharge : MethodName := ⟨RX3, "seeCharge", "(II)V"⟩
abbrev cX3_cellOf : ByteArray := prog_5_method_8_code
def yX3_cellOf : MethodName := ⟨RX3, "cellOf", "(II)I"⟩
abbrev cX3_isWithin : ByteArray := prog_5_method_9_code
def yX3_isWithin : MethodName := ⟨RX3, "isWithin", "(II)Z"⟩
abbrev cX3_gainOf : ByteArray := prog_5_method_10_code
def yX3_gainOf : MethodName := ⟨RX3, "gainOf", "(II)J"⟩
abbrev cX3_lossOf : ByteArray := prog_5_method_11_code
def yX3_lossOf : MethodName := ⟨RX3, "lossOf", "(II)J"⟩
abbrev cX3_gainToHave : ByteArray := prog_5_method_12_code
def yX3_gainToHave : MethodName := ⟨RX3, "gainToHave", "(II)J"⟩
abbrev cX3_bestDeed : ByteArray := prog_5_method_13_code
def yX3_bestDeed : MethodName := ⟨RX3, "bestDeed", "(I)I"⟩
abbrev cX3_bestAccuser : ByteArray := prog_5_method_14_code
def yX3_bestAccuser : MethodName := ⟨RX3, "bestAccuser", "(I)I"⟩
abbrev cX3_bestSum : ByteArray := prog_5_method_15_code
def yX3_bestSum : MethodName := ⟨RX3, "bestSum", "(II)J"⟩
abbrev cX3_sortIn : ByteArray := prog_5_method_16_code
def yX3_sortIn : MethodName := ⟨RX3, "sortIn", "(JI)V"⟩
abbrev cX3_worstLoss : ByteArray := prog_5_method_17_code
def yX3_worstLoss : MethodName := ⟨RX3, "worstLoss", "(I)J"⟩
abbrev cX3_worstDeed : ByteArray := prog_5_method_18_code
def yX3_worstDeed : MethodName := ⟨RX3, "worstDeed", "(I)I"⟩
abbrev cX3_dreadOf : ByteArray := prog_5_method_19_code
def yX3_dreadOf : MethodName := ⟨RX3, "dreadOf", "(I)J"⟩
abbrev cX3_mildestAccuser : ByteArray := prog_5_method_20_code
def yX3_mildestAccuser : MethodName := ⟨RX3, "mildestAccuser", "(I)I"⟩
abbrev cX3_fewestCoins : ByteArray := prog_5_method_21_code
def yX3_fewestCoins : MethodName := ⟨RX3, "fewestCoins", "(II)I"⟩
abbrev cX3_mostCoins : ByteArray := prog_5_method_22_code
def yX3_mostCoins : MethodName := ⟨RX3, "mostCoins", "(II)I"⟩
abbrev cX3_isAnyGlad : ByteArray := prog_5_method_23_code
def yX3_isAnyGlad : MethodName := ⟨RX3, "isAnyGlad", "(III)Z"⟩
abbrev cX3_leastGladShare : ByteArray := prog_5_method_24_code
def yX3_leastGladShare : MethodName := ⟨RX3, "leastGladShare", "(I)I"⟩
abbrev cX3_leastGladFine : ByteArray := prog_5_method_25_code
def yX3_leastGladFine : MethodName := ⟨RX3, "leastGladFine", "(I)I"⟩
abbrev cX3_mostGladPenalty : ByteArray := prog_5_method_26_code
def yX3_mostGladPenalty : MethodName := ⟨RX3, "mostGladPenalty", "(I)I"⟩
abbrev cX3_gladSet : ByteArray := prog_5_method_27_code
def yX3_gladSet : MethodName := ⟨RX3, "gladSet", "(II)I"⟩
def RX4 : String := "HalfAccuser$Life"
def TX4 : u_T := fun k => match k with
  | 0 => ("HalfAccuser$Life", "facts", "[I", true)
  | 1 => ("HalfAccuser$Life", "steps", "I", false)
  | _ => ("HalfAccuser$Life", "s", "I", false)
def tyX4 : Nat → FieldType := fun k => match k with
  | 0 => .array .int
  | 1 => .int
  | _ => .int
abbrev wsX40 : List Cond := u_ws RX4 TX4 3
theorem nmX4 : ∀ a, a < 3 → ∀ b, b < 3 → a ≠ b → (TX4 a).2.1 ≠ (TX4 b).2.1 := by decide +kernel
theorem tyX4_ok : ∀ k, k < 3 → parseFieldDescriptor (TX4 k).2.2.1 = some (tyX4 k) := by decide +kernel
abbrev cX4_init : ByteArray := prog_6_method_1_code
def yX4_init : MethodName := ⟨RX4, "<init>", "()V"⟩
abbrev cX4_sow : ByteArray := prog_6_method_2_code
def yX4_sow : MethodName := ⟨RX4, "sow", "(I)V"⟩
abbrev cX4_draw : ByteArray := prog_6_method_3_code
def yX4_draw : MethodName := ⟨RX4, "draw", "(I)I"⟩
abbrev cX4_jury : ByteArray := prog_6_method_4_code
def yX4_jury : MethodName := ⟨RX4, "jury", "(LHalfAccuser$City;II)I"⟩
def RX5 : String := "HalfAccuser$Past"
def TX5 : u_T := fun k => match k with
  | 0 => ("HalfAccuser$Past", "city", "LHalfAccuser$City;", true)
  | 1 => ("HalfAccuser$Past", "others", "[I", true)
  | 2 => ("HalfAccuser$Past", "many", "I", false)
  | 3 => ("HalfAccuser$Past", "ways", "I", false)
  | _ => ("HalfAccuser$Past", "always", "I", false)
def tyX5 : Nat → FieldType := fun k => match k with
  | 0 => .object "HalfAccuser$City"
  | 1 => .array .int
  | 2 => .int
  | 3 => .int
  | _ => .int
abbrev wsX50 : List Cond := u_ws RX5 TX5 5
theorem nmX5 : ∀ a, a < 5 → ∀ b, b < 5 → a ≠ b → (TX5 a).2.1 ≠ (TX5 b).2.1 := by decide +kernel
theorem tyX5_ok : ∀ k, k < 5 → parseFieldDescriptor (TX5 k).2.2.1 = some (tyX5 k) := by decide +kernel
abbrev cX5_init : ByteArray := prog_7_method_1_code
def yX5_init : MethodName := ⟨RX5, "<init>", "(LHalfAccuser$City;)V"⟩
abbrev cX5_gather : ByteArray := prog_7_method_2_code
def yX5_gather : MethodName := ⟨RX5, "gather", "(I)V"⟩
abbrev cX5_prize : ByteArray := prog_7_method_3_code
def yX5_prize : MethodName := ⟨RX5, "prize", "(I)I"⟩
abbrev cX5_most : ByteArray := prog_7_method_4_code
def yX5_most : MethodName := ⟨RX5, "most", "(I)I"⟩
abbrev cX5_least : ByteArray := prog_7_method_5_code
def yX5_least : MethodName := ⟨RX5, "least", "(I)I"⟩
abbrev cX5_look : ByteArray := prog_7_method_6_code
def yX5_look : MethodName := ⟨RX5, "look", "(II)V"⟩
abbrev cX5_waysToPay : ByteArray := prog_7_method_7_code
def yX5_waysToPay : MethodName := ⟨RX5, "waysToPay", "(II)I"⟩
abbrev cX5_choices : ByteArray := prog_7_method_8_code
def yX5_choices : MethodName := ⟨RX5, "choices", "(II)I"⟩
def RX6 : String := "HalfAccuser$Tape"
def TX6 : u_T := fun k => match k with
  | 0 => ("HalfAccuser$Tape", "bytes", "[B", true)
  | 1 => ("HalfAccuser$Tape", "length", "I", false)
  | 2 => ("HalfAccuser$Tape", "kinds", "[I", true)
  | 3 => ("HalfAccuser$Tape", "places", "[I", true)
  | 4 => ("HalfAccuser$Tape", "values", "[J", true)
  | 5 => ("HalfAccuser$Tape", "tokens", "I", false)
  | 6 => ("HalfAccuser$Tape", "now", "I", false)
  | 7 => ("HalfAccuser$Tape", "kind", "I", false)
  | 8 => ("HalfAccuser$Tape", "place", "I", false)
  | 9 => ("HalfAccuser$Tape", "value", "J", false)
  | 10 => ("HalfAccuser$Tape", "taken", "J", false)
  | 11 => ("HalfAccuser$Tape", "fault", "I", false)
  | _ => ("HalfAccuser$Tape", "faultPlace", "I", false)
def tyX6 : Nat → FieldType := fun k => match k with
  | 0 => .array .byte
  | 1 => .int
  | 2 => .array .int
  | 3 => .array .int
  | 4 => .array .long
  | 5 => .int
  | 6 => .int
  | 7 => .int
  | 8 => .int
  | 9 => .long
  | 10 => .long
  | 11 => .int
  | _ => .int
abbrev wsX60 : List Cond := u_ws RX6 TX6 13
theorem nmX6 : ∀ a, a < 13 → ∀ b, b < 13 → a ≠ b → (TX6 a).2.1 ≠ (TX6 b).2.1 := by decide +kernel
theorem tyX6_ok : ∀ k, k < 13 → parseFieldDescriptor (TX6 k).2.2.1 = some (tyX6 k) := by decide +kernel
abbrev cX6_init : ByteArray := prog_8_method_1_code
def yX6_init : MethodName := ⟨RX6, "<init>", "()V"⟩
abbrev cX6_hasRoom : ByteArray := prog_8_method_2_code
def yX6_hasRoom : MethodName := ⟨RX6, "hasRoom", "()Z"⟩
abbrev cX6_add : ByteArray := prog_8_method_3_code
def yX6_add : MethodName := ⟨RX6, "add", "(I)V"⟩
abbrev cX6_byteAt : ByteArray := prog_8_method_4_code
def yX6_byteAt : MethodName := ⟨RX6, "byteAt", "(I)I"⟩
abbrev cX6_split : ByteArray := prog_8_method_5_code
def yX6_split : MethodName := ⟨RX6, "split", "(I)V"⟩
abbrev cX6_addToken : ByteArray := prog_8_method_6_code
def yX6_addToken : MethodName := ⟨RX6, "addToken", "(IIJ)V"⟩
abbrev cX6_addWord : ByteArray := prog_8_method_7_code
def yX6_addWord : MethodName := ⟨RX6, "addWord", "(II)V"⟩
abbrev cX6_addNumber : ByteArray := prog_8_method_8_code
def yX6_addNumber : MethodName := ⟨RX6, "addNumber", "(II)V"⟩
abbrev cX6_runEnd : ByteArray := prog_8_method_9_code
def yX6_runEnd : MethodName := ⟨RX6, "runEnd", "(IIZ)I"⟩
abbrev cX6_keywordOf : ByteArray := prog_8_method_10_code
def yX6_keywordOf : MethodName := ⟨RX6, "keywordOf", "(II)I"⟩
abbrev cX6_nameOf : ByteArray := prog_8_method_11_code
def yX6_nameOf : MethodName := ⟨RX6, "nameOf", "(II)J"⟩
abbrev cX6_isLetter : ByteArray := prog_8_method_12_code
def yX6_isLetter : MethodName := ⟨RX6, "isLetter", "(I)Z"⟩
abbrev cX6_isDigit : ByteArray := prog_8_method_13_code
def yX6_isDigit : MethodName := ⟨RX6, "isDigit", "(I)Z"⟩
abbrev cX6_isWord : ByteArray := prog_8_method_14_code
def yX6_isWord : MethodName := ⟨RX6, "isWord", "(I)Z"⟩
abbrev cX6_wordNow : ByteArray := prog_8_method_15_code
def yX6_wordNow : MethodName := ⟨RX6, "wordNow", "()I"⟩
abbrev cX6_blame : ByteArray := prog_8_method_16_code
def yX6_blame : MethodName := ⟨RX6, "blame", "(I)Z"⟩
abbrev cX6_pass : ByteArray := prog_8_method_17_code
def yX6_pass : MethodName := ⟨RX6, "pass", "()V"⟩
abbrev cX6_takeWord : ByteArray := prog_8_method_18_code
def yX6_takeWord : MethodName := ⟨RX6, "takeWord", "(I)Z"⟩
abbrev cX6_takeSemicolon : ByteArray := prog_8_method_19_code
def yX6_takeSemicolon : MethodName := ⟨RX6, "takeSemicolon", "()Z"⟩
abbrev cX6_takeNumber : ByteArray := prog_8_method_20_code
def yX6_takeNumber : MethodName := ⟨RX6, "takeNumber", "(II)Z"⟩
abbrev cX6_number : ByteArray := prog_8_method_21_code
def yX6_number : MethodName := ⟨RX6, "number", "()I"⟩
def RX7 : String := "HalfAccuser$Trays"
def TX7 : u_T := fun k => match k with
  | 0 => ("HalfAccuser$Trays", "cells", "[J", true)
  | 1 => ("HalfAccuser$Trays", "sorts", "[I", true)
  | _ => ("HalfAccuser$Trays", "sizes", "[I", true)
def tyX7 : Nat → FieldType := fun k => match k with
  | 0 => .array .long
  | 1 => .array .int
  | _ => .array .int
abbrev wsX70 : List Cond := u_ws RX7 TX7 3
theorem nmX7 : ∀ a, a < 3 → ∀ b, b < 3 → a ≠ b → (TX7 a).2.1 ≠ (TX7 b).2.1 := by decide +kernel
theorem tyX7_ok : ∀ k, k < 3 → parseFieldDescriptor (TX7 k).2.2.1 = some (tyX7 k) := by decide +kernel
abbrev cX7_init : ByteArray := prog_9_method_1_code
def yX7_init : MethodName := ⟨RX7, "<init>", "()V"⟩
def RX8 : String := "HalfAccuser$Years"
def TX8 : u_T := fun k => match k with
  | 0 => ("HalfAccuser$Years", "words", "[I", true)
  | 1 => ("HalfAccuser$Years", "firsts", "[I", true)
  | 2 => ("HalfAccuser$Years", "seconds", "[I", true)
  | 3 => ("HalfAccuser$Years", "numbers", "[I", true)
  | 4 => ("HalfAccuser$Years", "partners", "[I", true)
  | 5 => ("HalfAccuser$Years", "roundsLeft", "[I", true)
  | 6 => ("HalfAccuser$Years", "lines", "I", false)
  | 7 => ("HalfAccuser$Years", "steps", "I", false)
  | _ => ("HalfAccuser$Years", "there", "Z", false)
def tyX8 : Nat → FieldType := fun k => match k with
  | 0 => .array .int
  | 1 => .array .int
  | 2 => .array .int
  | 3 => .array .int
  | 4 => .array .int
  | 5 => .array .int
  | 6 => .int
  | 7 => .int
  | _ => .boolean
abbrev wsX80 : List Cond := u_ws RX8 TX8 9
theorem nmX8 : ∀ a, a < 9 → ∀ b, b < 9 → a ≠ b → (TX8 a).2.1 ≠ (TX8 b).2.1 := by decide +kernel
theorem tyX8_ok : ∀ k, k < 9 → parseFieldDescriptor (TX8 k).2.2.1 = some (tyX8 k) := by decide +kernel
abbrev cX8_init : ByteArray := prog_10_method_1_code
def yX8_init : MethodName := ⟨RX8, "<init>", "()V"⟩
abbrev cX8_clear : ByteArray := prog_10_method_2_code
def yX8_clear : MethodName := ⟨RX8, "clear", "()V"⟩
abbrev cX8_copyFrom : ByteArray := prog_10_method_3_code
def yX8_copyFrom : MethodName := ⟨RX8, "copyFrom", "(LHalfAccuser$Years;)V"⟩
abbrev cX8_add : ByteArray := prog_10_method_4_code
def yX8_add : MethodName := ⟨RX8, "add", "(IIII)I"⟩
abbrev cX8_join : ByteArray := prog_10_method_5_code
def yX8_join : MethodName := ⟨RX8, "join", "(II)V"⟩
def RX9 : String := "HalfAccuser$YearsReader"
def TX9 : u_T := fun k => match k with
  | 0 => ("HalfAccuser$YearsReader", "tape", "LHalfAccuser$Tape;", true)
  | 1 => ("HalfAccuser$YearsReader", "city", "LHalfAccuser$City;", true)
  | 2 => ("HalfAccuser$YearsReader", "draft", "LHalfAccuser$Years;", true)
  | 3 => ("HalfAccuser$YearsReader", "opened", "[I", true)
  | 4 => ("HalfAccuser$YearsReader", "depth", "I", false)
  | _ => ("HalfAccuser$YearsReader", "named", "I", false)
def tyX9 : Nat → FieldType := fun k => match k with
  | 0 => .object "HalfAccuser$Tape"
  | 1 => .object "HalfAccuser$City"
  | 2 => .object "HalfAccuser$Years"
  | 3 => .array .int
  | 4 => .int
  | _ => .int
abbrev wsX90 : List Cond := u_ws RX9 TX9 6
theorem nmX9 : ∀ a, a < 6 → ∀ b, b < 6 → a ≠ b → (TX9 a).2.1 ≠ (TX9 b).2.1 := by decide +kernel
theorem tyX9_ok : ∀ k, k < 6 → parseFieldDescriptor (TX9 k).2.2.1 = some (tyX9 k) := by decide +kernel
abbrev cX9_init : ByteArray := prog_11_method_1_code
def yX9_init : MethodName := ⟨RX9, "<init>", "(LHalfAccuser$Tape;LHalfAccuser$City;LHalfAccuser$Years;)V"⟩
abbrev cX9_readText : ByteArray := prog_11_method_2_code
def yX9_readText : MethodName := ⟨RX9, "readText", "()Z"⟩
abbrev cX9_readEnd : ByteArray := prog_11_method_3_code
def yX9_readEnd : MethodName := ⟨RX9, "readEnd", "()Z"⟩
abbrev cX9_readStep : ByteArray := prog_11_method_4_code
def yX9_readStep : MethodName := ⟨RX9, "readStep", "()Z"⟩
abbrev cX9_beginsStep : ByteArray := prog_11_method_5_code
def yX9_beginsStep : MethodName := ⟨RX9, "beginsStep", "(I)Z"⟩
abbrev cX9_readCharge : ByteArray := prog_11_method_6_code
def yX9_readCharge : MethodName := ⟨RX9, "readCharge", "()Z"⟩
abbrev cX9_readDrop : ByteArray := prog_11_method_7_code
def yX9_readDrop : MethodName := ⟨RX9, "readDrop", "()Z"⟩
abbrev cX9_readEarn : ByteArray := prog_11_method_8_code
def yX9_readEarn : MethodName := ⟨RX9, "readEarn", "()Z"⟩
abbrev cX9_readLoop : ByteArray := prog_11_method_9_code
def yX9_readLoop : MethodName := ⟨RX9, "readLoop", "()Z"⟩
abbrev cX9_readTest : ByteArray := prog_11_method_10_code
def yX9_readTest : MethodName := ⟨RX9, "readTest", "()Z"⟩
abbrev cX9_open : ByteArray := prog_11_method_11_code
def yX9_open : MethodName := ⟨RX9, "open", "(I)V"⟩
abbrev cX9_personNow : ByteArray := prog_11_method_12_code
def yX9_personNow : MethodName := ⟨RX9, "personNow", "()I"⟩
abbrev cX9_deedNow : ByteArray := prog_11_method_13_code
def yX9_deedNow : MethodName := ⟨RX9, "deedNow", "()I"⟩
abbrev cX9_takeNamed : ByteArray := prog_11_method_14_code
def yX9_takeNamed : MethodName := ⟨RX9, "takeNamed", "(I)Z"⟩
def RX10 : String := "HalfAccuser"
def TX10 : u_T := fun k => match k with
  | 0 => ("HalfAccuser", "trays", "LHalfAccuser$Trays;", true)
  | 1 => ("HalfAccuser", "tape", "LHalfAccuser$Tape;", true)
  | 2 => ("HalfAccuser", "city", "LHalfAccuser$City;", true)
  | 3 => ("HalfAccuser", "spare", "LHalfAccuser$City;", true)
  | 4 => ("HalfAccuser", "marks", "[LHalfAccuser$City;", true)
  | 5 => ("HalfAccuser", "cityReader", "LHalfAccuser$CityReader;", true)
  | 6 => ("HalfAccuser", "yearsReader", "LHalfAccuser$YearsReader;", true)
  | 7 => ("HalfAccuser", "hopes", "LHalfAccuser$Hopes;", true)
  | 8 => ("HalfAccuser", "games", "LHalfAccuser$Games;", true)
  | 9 => ("HalfAccuser", "past", "LHalfAccuser$Past;", true)
  | 10 => ("HalfAccuser", "life", "LHalfAccuser$Life;", true)
  | 11 => ("HalfAccuser", "livedFacts", "[I", true)
  | 12 => ("HalfAccuser", "hasLived", "Z", false)
  | 13 => ("HalfAccuser", "marked", "I", false)
  | 14 => ("HalfAccuser", "latestStatus", "I", false)
  | 15 => ("HalfAccuser", "latestFault", "I", false)
  | 16 => ("HalfAccuser", "latestFaultPlace", "I", false)
  | 17 => ("HalfAccuser", "fractionTop", "J", false)
  | _ => ("HalfAccuser", "fractionBottom", "J", false)
def tyX10 : Nat → FieldType := fun k => match k with
  | 0 => .object "HalfAccuser$Trays"
  | 1 => .object "HalfAccuser$Tape"
  | 2 => .object "HalfAccuser$City"
  | 3 => .object "HalfAccuser$City"
  | 4 => .array (.object "HalfAccuser$City")
  | 5 => .object "HalfAccuser$CityReader"
  | 6 => .object "HalfAccuser$YearsReader"
  | 7 => .object "HalfAccuser$Hopes"
  | 8 => .object "HalfAccuser$Games"
  | 9 => .object "HalfAccuser$Past"
  | 10 => .object "HalfAccuser$Life"
  | 11 => .array .int
  | 12 => .boolean
  | 13 => .int
  | 14 => .int
  | 15 => .int
  | 16 => .int
  | 17 => .long
  | _ => .long
abbrev wsX100 : List Cond := u_ws RX10 TX10 19
theorem nmX10 : ∀ a, a < 19 → ∀ b, b < 19 → a ≠ b → (TX10 a).2.1 ≠ (TX10 b).2.1 := by decide +kernel
theorem tyX10_ok : ∀ k, k < 19 → parseFieldDescriptor (TX10 k).2.2.1 = some (tyX10 k) := by decide +kernel
abbrev cX10_init : ByteArray := prog_1_method_1_code
def yX10_init : MethodName := ⟨RX10, "<init>", "()V"⟩
abbrev cX10_top : ByteArray := prog_1_method_3_code
def yX10_top : MethodName := ⟨RX10, "top", "()J"⟩
abbrev cX10_bottom : ByteArray := prog_1_method_4_code
def yX10_bottom : MethodName := ⟨RX10, "bottom", "()J"⟩
abbrev cX10_feed : ByteArray := prog_1_method_9_code
def yX10_feed : MethodName := ⟨RX10, "feed", "(IIIII)I"⟩
abbrev cX10_city : ByteArray := prog_1_method_10_code
def yX10_city : MethodName := ⟨RX10, "city", "(I)I"⟩
abbrev cX10_years : ByteArray := prog_1_method_11_code
def yX10_years : MethodName := ⟨RX10, "years", "(I)I"⟩
abbrev cX10_many : ByteArray := prog_1_method_13_code
def yX10_many : MethodName := ⟨RX10, "many", "(I)I"⟩
abbrev cX10_person : ByteArray := prog_1_method_14_code
def yX10_person : MethodName := ⟨RX10, "person", "(II)I"⟩
abbrev cX10_deed : ByteArray := prog_1_method_15_code
def yX10_deed : MethodName := ⟨RX10, "deed", "(II)I"⟩
abbrev cX10_charge : ByteArray := prog_1_method_17_code
def yX10_charge : MethodName := ⟨RX10, "charge", "(III)I"⟩
abbrev cX10_hear : ByteArray := prog_1_method_18_code
def yX10_hear : MethodName := ⟨RX10, "hear", "(III)I"⟩
abbrev cX10_drop : ByteArray := prog_1_method_19_code
def yX10_drop : MethodName := ⟨RX10, "drop", "(III)I"⟩
abbrev cX10_commit : ByteArray := prog_1_method_20_code
def yX10_commit : MethodName := ⟨RX10, "commit", "(III)I"⟩
abbrev cX10_reopen : ByteArray := prog_1_method_21_code
def yX10_reopen : MethodName := ⟨RX10, "reopen", "(I)Z"⟩
abbrev cX10_can : ByteArray := prog_1_method_25_code
def yX10_can : MethodName := ⟨RX10, "can", "(II)I"⟩
abbrev cX10_wins : ByteArray := prog_1_method_28_code
def yX10_wins : MethodName := ⟨RX10, "wins", "(II)Z"⟩
abbrev cX10_owes : ByteArray := prog_1_method_29_code
def yX10_owes : MethodName := ⟨RX10, "owes", "(II)Z"⟩
abbrev cX10_gain : ByteArray := prog_1_method_30_code
def yX10_gain : MethodName := ⟨RX10, "gain", "(II)Z"⟩
abbrev cX10_loss : ByteArray := prog_1_method_31_code
def yX10_loss : MethodName := ⟨RX10, "loss", "(II)Z"⟩
abbrev cX10_best : ByteArray := prog_1_method_32_code
def yX10_best : MethodName := ⟨RX10, "best", "(I)I"⟩
abbrev cX10_plan : ByteArray := prog_1_method_33_code
def yX10_plan : MethodName := ⟨RX10, "plan", "(II)Z"⟩
abbrev cX10_accuser : ByteArray := prog_1_method_34_code
def yX10_accuser : MethodName := ⟨RX10, "accuser", "(I)I"⟩
abbrev cX10_dreaded : ByteArray := prog_1_method_35_code
def yX10_dreaded : MethodName := ⟨RX10, "dreaded", "(I)I"⟩
abbrev cX10_dread : ByteArray := prog_1_method_36_code
def yX10_dread : MethodName := ⟨RX10, "dread", "(I)Z"⟩
abbrev cX10_friend : ByteArray := prog_1_method_37_code
def yX10_friend : MethodName := ⟨RX10, "friend", "(I)I"⟩
abbrev cX10_quiet : ByteArray := prog_1_method_38_code
def yX10_quiet : MethodName := ⟨RX10, "quiet", "()I"⟩
abbrev cX10_trade : ByteArray := prog_1_method_39_code
def yX10_trade : MethodName := ⟨RX10, "trade", "(III)I"⟩
abbrev cX10_leastShare : ByteArray := prog_1_method_40_code
def yX10_leastShare : MethodName := ⟨RX10, "leastShare", "(I)I"⟩
abbrev cX10_leastFine : ByteArray := prog_1_method_41_code
def yX10_leastFine : MethodName := ⟨RX10, "leastFine", "(I)I"⟩
abbrev cX10_mostPenalty : ByteArray := prog_1_method_42_code
def yX10_mostPenalty : MethodName := ⟨RX10, "mostPenalty", "(I)I"⟩
abbrev cX10_gladBy : ByteArray := prog_1_method_43_code
def yX10_gladBy : MethodName := ⟨RX10, "gladBy", "(II)I"⟩
abbrev cX10_game : ByteArray := prog_1_method_44_code
def yX10_game : MethodName := ⟨RX10, "game", "(III)Z"⟩
abbrev cX10_moveOf : ByteArray := prog_1_method_45_code
def yX10_moveOf : MethodName := ⟨RX10, "moveOf", "(III)I"⟩
abbrev cX10_club : ByteArray := prog_1_method_46_code
def yX10_club : MethodName := ⟨RX10, "club", "(I)I"⟩
abbrev cX10_clubPart : ByteArray := prog_1_method_47_code
def yX10_clubPart : MethodName := ⟨RX10, "clubPart", "(I)Z"⟩
abbrev cX10_gained : ByteArray := prog_1_method_48_code
def yX10_gained : MethodName := ⟨RX10, "gained", "(II)I"⟩
abbrev cX10_sure : ByteArray := prog_1_method_49_code
def yX10_sure : MethodName := ⟨RX10, "sure", "(II)I"⟩
abbrev cX10_bound : ByteArray := prog_1_method_50_code
def yX10_bound : MethodName := ⟨RX10, "bound", "(II)I"⟩
abbrev cX10_mark : ByteArray := prog_1_method_54_code
def yX10_mark : MethodName := ⟨RX10, "mark", "()I"⟩
abbrev cX10_back : ByteArray := prog_1_method_55_code
def yX10_back : MethodName := ⟨RX10, "back", "()I"⟩
abbrev cX10_seen : ByteArray := prog_1_method_56_code
def yX10_seen : MethodName := ⟨RX10, "seen", "()LHalfAccuser$Hopes;"⟩
abbrev cX10_settled : ByteArray := prog_1_method_57_code
def yX10_settled : MethodName := ⟨RX10, "settled", "(I)Z"⟩
abbrev cX10_refused : ByteArray := prog_1_method_58_code
def yX10_refused : MethodName := ⟨RX10, "refused", "(I)I"⟩
abbrev cX10_told : ByteArray := prog_1_method_59_code
def yX10_told : MethodName := ⟨RX10, "told", "(I)I"⟩
abbrev cX10_toldIfAny : ByteArray := prog_1_method_60_code
def yX10_toldIfAny : MethodName := ⟨RX10, "toldIfAny", "(I)I"⟩
abbrev cX10_tell : ByteArray := prog_1_method_61_code
def yX10_tell : MethodName := ⟨RX10, "tell", "(JJ)Z"⟩
abbrev cX10_tellFault : ByteArray := prog_1_method_62_code
def yX10_tellFault : MethodName := ⟨RX10, "tellFault", "(Z)Z"⟩
abbrev cX10_areThere : ByteArray := prog_1_method_63_code
def yX10_areThere : MethodName := ⟨RX10, "areThere", "(II)Z"⟩
abbrev cX10_voteStatus : ByteArray := prog_1_method_64_code
def yX10_voteStatus : MethodName := ⟨RX10, "voteStatus", "(II)I"⟩
abbrev cX10_meanStatus : ByteArray := prog_1_method_65_code
def yX10_meanStatus : MethodName := ⟨RX10, "meanStatus", "(II)I"⟩
abbrev cX10_gameStatus : ByteArray := prog_1_method_66_code
def yX10_gameStatus : MethodName := ⟨RX10, "gameStatus", "(IIII)I"⟩
abbrev cX10_pastStatus : ByteArray := prog_1_method_67_code
def yX10_pastStatus : MethodName := ⟨RX10, "pastStatus", "(II)I"⟩
abbrev cX10_commonDivisor : ByteArray := prog_1_method_68_code
def yX10_commonDivisor : MethodName := ⟨RX10, "commonDivisor", "(JJ)J"⟩
abbrev cX10_at : ByteArray := prog_1_method_69_code
def yX10_at : MethodName := ⟨RX10, "at", "([II)I"⟩
abbrev cX10_at_ : ByteArray := prog_1_method_70_code
def yX10_at_ : MethodName := ⟨RX10, "at", "([JI)J"⟩
abbrev cX10_put : ByteArray := prog_1_method_71_code
def yX10_put : MethodName := ⟨RX10, "put", "([III)V"⟩
abbrev cX10_put_ : ByteArray := prog_1_method_72_code
def yX10_put_ : MethodName := ⟨RX10, "put", "([JIJ)V"⟩
abbrev cX10_copy : ByteArray := prog_1_method_73_code
def yX10_copy : MethodName := ⟨RX10, "copy", "([I[I)V"⟩
abbrev cX10_copy_ : ByteArray := prog_1_method_74_code
def yX10_copy_ : MethodName := ⟨RX10, "copy", "([J[J)V"⟩
abbrev cX10_isIn : ByteArray := prog_1_method_75_code
def yX10_isIn : MethodName := ⟨RX10, "isIn", "(II)Z"⟩
abbrev cX10_limited : ByteArray := prog_1_method_76_code
def yX10_limited : MethodName := ⟨RX10, "limited", "(II)I"⟩
def RX11 : String := "HalfAccuserModel"
def TX11 : u_T := fun k => match k with
  | _ => ("", "", "", false)
def tyX11 : Nat → FieldType := fun k => match k with
  | _ => .int
abbrev wsX110 : List Cond := u_ws RX11 TX11 0
theorem nmX11 : ∀ a, a < 0 → ∀ b, b < 0 → a ≠ b → (TX11 a).2.1 ≠ (TX11 b).2.1 := by decide +kernel
theorem tyX11_ok : ∀ k, k < 0 → parseFieldDescriptor (TX11 k).2.2.1 = some (tyX11 k) := by decide +kernel
def RJx145de : String := "java/io/Serializable"
def TJx145de : u_T := fun k => match k with
  | _ => ("", "", "", false)
def tyJx145de : Nat → FieldType := fun k => match k with
  | _ => .int
abbrev wsJx145de0 : List Cond := u_ws RJx145de TJx145de 0
theorem nmJx145de : ∀ a, a < 0 → ∀ b, b < 0 → a ≠ b → (TJx145de a).2.1 ≠ (TJx145de b).2.1 := by decide +kernel
theorem tyJx145de_ok : ∀ k, k < 0 → parseFieldDescriptor (TJx145de k).2.2.1 = some (tyJx145de k) := by decide +kernel
def RJx9f9b0 : String := "java/lang/CharSequence"
def TJx9f9b0 : u_T := fun k => match k with
  | _ => ("", "", "", false)
def tyJx9f9b0 : Nat → FieldType := fun k => match k with
  | _ => .int
abbrev wsJx9f9b00 : List Cond := u_ws RJx9f9b0 TJx9f9b0 0
theorem nmJx9f9b0 : ∀ a, a < 0 → ∀ b, b < 0 → a ≠ b → (TJx9f9b0 a).2.1 ≠ (TJx9f9b0 b).2.1 := by decide +kernel
theorem tyJx9f9b0_ok : ∀ k, k < 0 → parseFieldDescriptor (TJx9f9b0 k).2.2.1 = some (tyJx9f9b0 k) := by decide +kernel
def RJxb160c : String := "java/lang/Comparable"
def TJxb160c : u_T := fun k => match k with
  | _ => ("", "", "", false)
def tyJxb160c : Nat → FieldType := fun k => match k with
  | _ => .int
abbrev wsJxb160c0 : List Cond := u_ws RJxb160c TJxb160c 0
theorem nmJxb160c : ∀ a, a < 0 → ∀ b, b < 0 → a ≠ b → (TJxb160c a).2.1 ≠ (TJxb160c b).2.1 := by decide +kernel
theorem tyJxb160c_ok : ∀ k, k < 0 → parseFieldDescriptor (TJxb160c k).2.2.1 = some (tyJxb160c k) := by decide +kernel
def RJ6 : String := "java/lang/Integer"
def TJ6 : u_T := fun k => match k with
  | _ => ("", "", "", false)
def tyJ6 : Nat → FieldType := fun k => match k with
  | _ => .int
abbrev wsJ60 : List Cond := u_ws RJ6 TJ6 0
theorem nmJ6 : ∀ a, a < 0 → ∀ b, b < 0 → a ≠ b → (TJ6 a).2.1 ≠ (TJ6 b).2.1 := by decide +kernel
theorem tyJ6_ok : ∀ k, k < 0 → parseFieldDescriptor (TJ6 k).2.2.1 = some (tyJ6 k) := by decide +kernel
abbrev cJ6_bitCount_0f7a4 : ByteArray := prog_14_method_49_code
def yJ6_bitCount_0f7a4 : MethodName := ⟨RJ6, "bitCount", "(I)I"⟩
def RJ9 : String := "java/lang/Math"
def TJ9 : u_T := fun k => match k with
  | _ => ("", "", "", false)
def tyJ9 : Nat → FieldType := fun k => match k with
  | _ => .int
abbrev wsJ90 : List Cond := u_ws RJ9 TJ9 0
theorem nmJ9 : ∀ a, a < 0 → ∀ b, b < 0 → a ≠ b → (TJ9 a).2.1 ≠ (TJ9 b).2.1 := by decide +kernel
theorem tyJ9_ok : ∀ k, k < 0 → parseFieldDescriptor (TJ9 k).2.2.1 = some (tyJ9 k) := by decide +kernel
abbrev cJ9_abs_067f4 : ByteArray := prog_15_method_61_code
def yJ9_abs_067f4 : MethodName := ⟨RJ9, "abs", "(J)J"⟩
abbrev cJ9_max_7cf53 : ByteArray := prog_15_method_65_code
def yJ9_max_7cf53 : MethodName := ⟨RJ9, "max", "(II)I"⟩
abbrev cJ9_max_f86c9 : ByteArray := prog_15_method_66_code
def yJ9_max_f86c9 : MethodName := ⟨RJ9, "max", "(JJ)J"⟩
abbrev cJ9_min_7cf53 : ByteArray := prog_15_method_69_code
def yJ9_min_7cf53 : MethodName := ⟨RJ9, "min", "(II)I"⟩
abbrev cJ9_min_f86c9 : ByteArray := prog_15_method_70_code
def yJ9_min_f86c9 : MethodName := ⟨RJ9, "min", "(JJ)J"⟩
def RJ0 : String := "java/lang/String"
def TJ0 : u_T := fun k => match k with
  | _ => ("", "", "", false)
def tyJ0 : Nat → FieldType := fun k => match k with
  | _ => .int
abbrev wsJ00 : List Cond := u_ws RJ0 TJ0 0
theorem nmJ0 : ∀ a, a < 0 → ∀ b, b < 0 → a ≠ b → (TJ0 a).2.1 ≠ (TJ0 b).2.1 := by decide +kernel
theorem tyJ0_ok : ∀ k, k < 0 → parseFieldDescriptor (TJ0 k).2.2.1 = some (tyJ0 k) := by decide +kernel
abbrev cJ0_length_8abf5 : ByteArray := prog_16_method_54_code
def yJ0_length_8abf5 : MethodName := ⟨RJ0, "length", "()I"⟩
abbrev cJ0_charAt_5068e : ByteArray := prog_16_method_56_code
def yJ0_charAt_5068e : MethodName := ⟨RJ0, "charAt", "(I)C"⟩
abbrev cJ0_coder_7d493 : ByteArray := prog_16_method_152_code
def yJ0_coder_7d493 : MethodName := ⟨RJ0, "coder", "()B"⟩
abbrev cJ0_isLatin1_aae02 : ByteArray := prog_16_method_154_code
def yJ0_isLatin1_aae02 : MethodName := ⟨RJ0, "isLatin1", "()Z"⟩
abbrev cJ0_checkIndex_df160 : ByteArray := prog_16_method_155_code
def yJ0_checkIndex_df160 : MethodName := ⟨RJ0, "checkIndex", "(II)V"⟩
def RJ1 : String := "java/lang/StringLatin1"
def TJ1 : u_T := fun k => match k with
  | _ => ("", "", "", false)
def tyJ1 : Nat → FieldType := fun k => match k with
  | _ => .int
abbrev wsJ10 : List Cond := u_ws RJ1 TJ1 0
theorem nmJ1 : ∀ a, a < 0 → ∀ b, b < 0 → a ≠ b → (TJ1 a).2.1 ≠ (TJ1 b).2.1 := by decide +kernel
theorem tyJ1_ok : ∀ k, k < 0 → parseFieldDescriptor (TJ1 k).2.2.1 = some (tyJ1 k) := by decide +kernel
abbrev cJ1_charAt_3b067 : ByteArray := prog_17_method_2_code
def yJ1_charAt_3b067 : MethodName := ⟨RJ1, "charAt", "([BI)C"⟩
def RJ2 : String := "java/lang/StringUTF16"
def TJ2 : u_T := fun k => match k with
  | _ => ("", "", "", false)
def tyJ2 : Nat → FieldType := fun k => match k with
  | _ => .int
abbrev wsJ20 : List Cond := u_ws RJ2 TJ2 0
theorem nmJ2 : ∀ a, a < 0 → ∀ b, b < 0 → a ≠ b → (TJ2 a).2.1 ≠ (TJ2 b).2.1 := by decide +kernel
theorem tyJ2_ok : ∀ k, k < 0 → parseFieldDescriptor (TJ2 k).2.2.1 = some (tyJ2 k) := by decide +kernel
abbrev cJ2_getChar_3b067 : ByteArray := prog_18_method_5_code
def yJ2_getChar_3b067 : MethodName := ⟨RJ2, "getChar", "([BI)C"⟩
abbrev cJ2_length_9d52b : ByteArray := prog_18_method_6_code
def yJ2_length_9d52b : MethodName := ⟨RJ2, "length", "([B)I"⟩
abbrev cJ2_charAt_3b067 : ByteArray := prog_18_method_83_code
def yJ2_charAt_3b067 : MethodName := ⟨RJ2, "charAt", "([BI)C"⟩
abbrev cJ2_checkIndex_2214a : ByteArray := prog_18_method_91_code
def yJ2_checkIndex_2214a : MethodName := ⟨RJ2, "checkIndex", "(I[B)V"⟩
def RJ10 : String := "java/lang/System"
def TJ10 : u_T := fun k => match k with
  | _ => ("", "", "", false)
def tyJ10 : Nat → FieldType := fun k => match k with
  | _ => .int
abbrev wsJ100 : List Cond := u_ws RJ10 TJ10 0
theorem nmJ10 : ∀ a, a < 0 → ∀ b, b < 0 → a ≠ b → (TJ10 a).2.1 ≠ (TJ10 b).2.1 := by decide +kernel
theorem tyJ10_ok : ∀ k, k < 0 → parseFieldDescriptor (TJ10 k).2.2.1 = some (tyJ10 k) := by decide +kernel
def RJxfd54e : String := "java/lang/constant/Constable"
def TJxfd54e : u_T := fun k => match k with
  | _ => ("", "", "", false)
def tyJxfd54e : Nat → FieldType := fun k => match k with
  | _ => .int
abbrev wsJxfd54e0 : List Cond := u_ws RJxfd54e TJxfd54e 0
theorem nmJxfd54e : ∀ a, a < 0 → ∀ b, b < 0 → a ≠ b → (TJxfd54e a).2.1 ≠ (TJxfd54e b).2.1 := by decide +kernel
theorem tyJxfd54e_ok : ∀ k, k < 0 → parseFieldDescriptor (TJxfd54e k).2.2.1 = some (tyJxfd54e k) := by decide +kernel
def RJx3cf43 : String := "java/lang/constant/ConstantDesc"
def TJx3cf43 : u_T := fun k => match k with
  | _ => ("", "", "", false)
def tyJx3cf43 : Nat → FieldType := fun k => match k with
  | _ => .int
abbrev wsJx3cf430 : List Cond := u_ws RJx3cf43 TJx3cf43 0
theorem nmJx3cf43 : ∀ a, a < 0 → ∀ b, b < 0 → a ≠ b → (TJx3cf43 a).2.1 ≠ (TJx3cf43 b).2.1 := by decide +kernel
theorem tyJx3cf43_ok : ∀ k, k < 0 → parseFieldDescriptor (TJx3cf43 k).2.2.1 = some (tyJx3cf43 k) := by decide +kernel
def RJ7 : String := "java/util/Arrays"
def TJ7 : u_T := fun k => match k with
  | _ => ("", "", "", false)
def tyJ7 : Nat → FieldType := fun k => match k with
  | _ => .int
abbrev wsJ70 : List Cond := u_ws RJ7 TJ7 0
theorem nmJ7 : ∀ a, a < 0 → ∀ b, b < 0 → a ≠ b → (TJ7 a).2.1 ≠ (TJ7 b).2.1 := by decide +kernel
theorem tyJ7_ok : ∀ k, k < 0 → parseFieldDescriptor (TJ7 k).2.2.1 = some (tyJ7 k) := by decide +kernel
abbrev cJ7_fill_d0a16 : ByteArray := prog_20_method_101_code
def yJ7_fill_d0a16 : MethodName := ⟨RJ7, "fill", "([JJ)V"⟩
abbrev cJ7_fill_53178 : ByteArray := prog_20_method_103_code
def yJ7_fill_53178 : MethodName := ⟨RJ7, "fill", "([II)V"⟩
def RJ3 : String := "jdk/internal/util/Preconditions"
def TJ3 : u_T := fun k => match k with
  | _ => ("", "", "", false)
def tyJ3 : Nat → FieldType := fun k => match k with
  | _ => .int
abbrev wsJ30 : List Cond := u_ws RJ3 TJ3 0
theorem nmJ3 : ∀ a, a < 0 → ∀ b, b < 0 → a ≠ b → (TJ3 a).2.1 ≠ (TJ3 b).2.1 := by decide +kernel
theorem tyJ3_ok : ∀ k, k < 0 → parseFieldDescriptor (TJ3 k).2.2.1 = some (tyJ3 k) := by decide +kernel
abbrev cJ3_checkIndex_8e157 : ByteArray := prog_21_method_11_code
def yJ3_checkIndex_8e157 : MethodName := ⟨RJ3, "checkIndex", "(IILjava/util/function/BiFunction;)I"⟩
def RL : String := "HalfAccuserLaw"
abbrev cL_put : ByteArray := method_2_code
def yL_put : MethodName := ⟨RL, "put", "(LHalfAccuser;[II)V"⟩
abbrev cL_feed : ByteArray := method_3_code
def yL_feed : MethodName := ⟨RL, "feed", "(LHalfAccuser;[I)V"⟩
abbrev cL_four : ByteArray := method_4_code
def yL_four : MethodName := ⟨RL, "four", "([II)I"⟩
abbrev cL_say : ByteArray := method_5_code
def yL_say : MethodName := ⟨RL, "say", "(LHalfAccuser;[ILjava/lang/String;)V"⟩
abbrev cL_load : ByteArray := method_6_code
def yL_load : MethodName := ⟨RL, "load", "(LHalfAccuser;[I)I"⟩
abbrev cL_number : ByteArray := method_7_code
def yL_number : MethodName := ⟨RL, "number", "(LHalfAccuser;[II)V"⟩
abbrev cL_name : ByteArray := method_8_code
def yL_name : MethodName := ⟨RL, "name", "(LHalfAccuser;[III)V"⟩
abbrev cL_lay : ByteArray := method_9_code
def yL_lay : MethodName := ⟨RL, "lay", "(LHalfAccuser;[I[I)Z"⟩
abbrev cL_draw : ByteArray := method_10_code
def yL_draw : MethodName := ⟨RL, "draw", "([I[I)V"⟩
abbrev cL_law : ByteArray := code
def yL_law : MethodName := ⟨RL, "law", "([I)Z"⟩
def wsL_law_r1 : List Cond := [Cond.classLink RL 18 RX10, Cond.instantiable RX10 19, Cond.initialized RX10, Cond.arrayClass .int, Cond.methodLink RL 112 yX10_init, Cond.instanceMethod yX10_init, Cond.code yX10_init cX10_init 2 none, Cond.methodLink RX10 1 objectInit, Cond.instanceMethod objectInit, Cond.code objectInit ⟨#[0xb1]⟩ 1 none, Cond.classLink RX10 7 RX7, Cond.instantiable RX7 3, Cond.initialized RX7, Cond.fieldLink RX10 10 "HalfAccuser" "trays" "LHalfAccuser$Trays;", Cond.classLink RX10 16 RX6, Cond.instantiable RX6 13, Cond.initialized RX6, Cond.fieldLink RX10 19 "HalfAccuser" "tape" "LHalfAccuser$Tape;", Cond.classLink RX10 23 RX0, Cond.instantiable RX0 19, Cond.initialized RX0, Cond.fieldLink RX10 26 "HalfAccuser" "city" "LHalfAccuser$City;", Cond.fieldLink RX10 30 "HalfAccuser" "spare" "LHalfAccuser$City;", Cond.fieldLink RX10 33 "HalfAccuser" "marks" "[LHalfAccuser$City;"]
def wsL_law_r2 : List Cond := [Cond.classLink RX10 37 RX1, Cond.instantiable RX1 3, Cond.initialized RX1, Cond.fieldLink RX10 42 "HalfAccuser" "cityReader" "LHalfAccuser$CityReader;", Cond.classLink RX10 46 RX9, Cond.instantiable RX9 6, Cond.initialized RX9, Cond.fieldLink RX10 48 "HalfAccuser$City" "years" "LHalfAccuser$Years;", Cond.fieldLink RX10 55 "HalfAccuser" "yearsReader" "LHalfAccuser$YearsReader;", Cond.classLink RX10 59 RX3, Cond.instantiable RX3 10, Cond.initialized RX3, Cond.fieldLink RX10 64 "HalfAccuser" "hopes" "LHalfAccuser$Hopes;", Cond.classLink RX10 68 RX2, Cond.instantiable RX2 6, Cond.initialized RX2, Cond.fieldLink RX10 73 "HalfAccuser" "games" "LHalfAccuser$Games;", Cond.classLink RX10 77 RX5, Cond.instantiable RX5 5, Cond.initialized RX5, Cond.fieldLink RX10 80 "HalfAccuser" "past" "LHalfAccuser$Past;", Cond.classLink RX10 84 RX4, Cond.instantiable RX4 3, Cond.initialized RX4]
def wsL_law_r3 : List Cond := [Cond.fieldLink RX10 87 "HalfAccuser" "life" "LHalfAccuser$Life;", Cond.fieldLink RX10 91 "HalfAccuser" "livedFacts" "[I", Cond.fieldLink RX10 95 "HalfAccuser" "latestFault" "I", Cond.fieldLink RX10 99 "HalfAccuser" "latestFaultPlace" "I", Cond.fieldLink RX10 102 "HalfAccuser" "fractionBottom" "J", Cond.methodLink RX10 9 yX7_init, Cond.instanceMethod yX7_init, Cond.code yX7_init cX7_init 1 none, Cond.methodLink RX7 3 objectInit, Cond.arrayClass .long, Cond.fieldLink RX7 11 "HalfAccuser$Trays" "cells" "[J", Cond.fieldLink RX7 15 "HalfAccuser$Trays" "sorts" "[I", Cond.fieldLink RX7 19 "HalfAccuser$Trays" "sizes" "[I", Cond.methodLink RX7 22 yJ7_fill_53178, Cond.static yJ7_fill_53178, Cond.initialized RJ7, Cond.code yJ7_fill_53178 cJ7_fill_53178 4 none, Cond.instanceMethod yX6_init, Cond.code yX6_init cX6_init 1 none, Cond.methodLink RX6 3 objectInit, Cond.arrayClass .byte, Cond.fieldLink RX6 11 "HalfAccuser$Tape" "bytes" "[B", Cond.fieldLink RX6 15 "HalfAccuser$Tape" "kinds" "[I", Cond.fieldLink RX6 19 "HalfAccuser$Tape" "places" "[I"]
def wsL_law_r4 : List Cond := [Cond.fieldLink RX6 22 "HalfAccuser$Tape" "values" "[J", Cond.methodLink RX10 25 yX0_init, Cond.instanceMethod yX0_init, Cond.code yX0_init cX0_init 1 none, Cond.methodLink RX0 3 objectInit, Cond.fieldLink RX0 9 "HalfAccuser$City" "rules" "[I", Cond.fieldLink RX0 15 "HalfAccuser$City" "personNames" "[J", Cond.fieldLink RX0 19 "HalfAccuser$City" "coins" "[I", Cond.fieldLink RX0 22 "HalfAccuser$City" "skills" "[I", Cond.fieldLink RX0 25 "HalfAccuser$City" "wonCounts" "[I", Cond.fieldLink RX0 28 "HalfAccuser$City" "owedCounts" "[I", Cond.fieldLink RX0 31 "HalfAccuser$City" "dropped" "[I", Cond.fieldLink RX0 34 "HalfAccuser$City" "deedNames" "[J", Cond.fieldLink RX0 37 "HalfAccuser$City" "owners" "[I", Cond.fieldLink RX0 40 "HalfAccuser$City" "fines" "[I", Cond.fieldLink RX0 43 "HalfAccuser$City" "odds" "[I", Cond.fieldLink RX0 46 "HalfAccuser$City" "states" "[I", Cond.fieldLink RX0 49 "HalfAccuser$City" "accusers" "[I", Cond.fieldLink RX0 52 "HalfAccuser$City" "votesFor" "[I", Cond.classLink RX0 55 RX8, Cond.instantiable RX8 9, Cond.initialized RX8, Cond.fieldLink RX0 58 "HalfAccuser$City" "years" "LHalfAccuser$Years;", Cond.instanceMethod yX8_init]
def wsL_law_r5 : List Cond := [Cond.code yX8_init cX8_init 1 none, Cond.methodLink RX8 5 objectInit, Cond.fieldLink RX8 11 "HalfAccuser$Years" "words" "[I", Cond.fieldLink RX8 15 "HalfAccuser$Years" "firsts" "[I", Cond.fieldLink RX8 18 "HalfAccuser$Years" "seconds" "[I", Cond.fieldLink RX8 21 "HalfAccuser$Years" "numbers" "[I", Cond.fieldLink RX8 24 "HalfAccuser$Years" "partners" "[I", Cond.fieldLink RX8 27 "HalfAccuser$Years" "roundsLeft" "[I", Cond.methodLink RX0 62 yX0_clear, Cond.instanceMethod yX0_clear, Cond.selects RX0 yX0_clear yX0_clear, Cond.code yX0_clear cX0_clear 1 none, Cond.fieldLink RX0 72 "HalfAccuser$City" "people" "I", Cond.fieldLink RX0 76 "HalfAccuser$City" "deeds" "I", Cond.fieldLink RX0 79 "HalfAccuser$City" "treasury" "I", Cond.fieldLink RX0 82 "HalfAccuser$City" "heard" "I", Cond.static yX10_copy, Cond.code yX10_copy cX10_copy 2 none, Cond.methodLink RX10 455 Lib.Math.min.name, Cond.static Lib.Math.min.name, Cond.initialized "java/lang/Math", Cond.code Lib.Math.min.name Lib.Math.min.code 2 (some .int), Cond.methodLink RX10 458 arraycopyName, Cond.native arraycopyName]
def wsL_law_r6 : List Cond := [Cond.static arraycopyName, Cond.initialized "java/lang/System", Cond.methodLink RX0 85 yX8_clear, Cond.instanceMethod yX8_clear, Cond.selects RX8 yX8_clear yX8_clear, Cond.code yX8_clear cX8_clear 1 none, Cond.fieldLink RX8 30 "HalfAccuser$Years" "lines" "I", Cond.fieldLink RX8 34 "HalfAccuser$Years" "steps" "I", Cond.fieldLink RX8 37 "HalfAccuser$Years" "there" "Z", Cond.methodLink RX10 39 yX1_init, Cond.instanceMethod yX1_init, Cond.code yX1_init cX1_init 3 none, Cond.methodLink RX1 3 objectInit, Cond.fieldLink RX1 9 "HalfAccuser$CityReader" "tape" "LHalfAccuser$Tape;", Cond.fieldLink RX1 15 "HalfAccuser$CityReader" "draft" "LHalfAccuser$City;", Cond.methodLink RX10 52 yX9_init, Cond.instanceMethod yX9_init, Cond.code yX9_init cX9_init 4 none, Cond.methodLink RX9 3 objectInit, Cond.fieldLink RX9 11 "HalfAccuser$YearsReader" "opened" "[I", Cond.fieldLink RX9 15 "HalfAccuser$YearsReader" "tape" "LHalfAccuser$Tape;", Cond.fieldLink RX9 19 "HalfAccuser$YearsReader" "city" "LHalfAccuser$City;", Cond.fieldLink RX9 23 "HalfAccuser$YearsReader" "draft" "LHalfAccuser$Years;", Cond.methodLink RX10 61 yX3_init]
def wsL_law_r7 : List Cond := [Cond.instanceMethod yX3_init, Cond.code yX3_init cX3_init 2 none, Cond.methodLink RX3 3 objectInit, Cond.fieldLink RX3 9 "HalfAccuser$Hopes" "ways" "[J", Cond.fieldLink RX3 15 "HalfAccuser$Hopes" "winsBy" "[J", Cond.fieldLink RX3 18 "HalfAccuser$Hopes" "debtsBy" "[J", Cond.fieldLink RX3 21 "HalfAccuser$Hopes" "wins" "[J", Cond.fieldLink RX3 24 "HalfAccuser$Hopes" "debts" "[J", Cond.fieldLink RX3 27 "HalfAccuser$Hopes" "gains" "[J", Cond.fieldLink RX3 30 "HalfAccuser$Hopes" "losses" "[J", Cond.fieldLink RX3 33 "HalfAccuser$Hopes" "within" "[I", Cond.fieldLink RX3 37 "HalfAccuser$Hopes" "sorted" "[J", Cond.fieldLink RX3 40 "HalfAccuser$Hopes" "city" "LHalfAccuser$City;", Cond.methodLink RX10 70 yX2_init, Cond.instanceMethod yX2_init, Cond.code yX2_init cX2_init 3 none, Cond.methodLink RX2 3 objectInit, Cond.fieldLink RX2 9 "HalfAccuser$Games" "movers" "[I", Cond.fieldLink RX2 15 "HalfAccuser$Games" "worths" "[J", Cond.fieldLink RX2 19 "HalfAccuser$Games" "dreads" "[J", Cond.fieldLink RX2 22 "HalfAccuser$Games" "city" "LHalfAccuser$City;", Cond.fieldLink RX2 26 "HalfAccuser$Games" "hopes" "LHalfAccuser$Hopes;", Cond.methodLink RX10 79 yX5_init, Cond.instanceMethod yX5_init]
def wsL_law_r8 : List Cond := [Cond.code yX5_init cX5_init 2 none, Cond.methodLink RX5 3 objectInit, Cond.fieldLink RX5 9 "HalfAccuser$Past" "others" "[I", Cond.fieldLink RX5 15 "HalfAccuser$Past" "city" "LHalfAccuser$City;", Cond.instanceMethod yX4_init, Cond.code yX4_init cX4_init 1 none, Cond.methodLink RX4 3 objectInit, Cond.fieldLink RX4 11 "HalfAccuser$Life" "facts" "[I", Cond.methodLink RL 113 yL_draw, Cond.static yL_draw, Cond.initialized RL, Cond.code yL_draw cL_draw 5 none, Cond.methodLink RL 117 yL_lay, Cond.static yL_lay, Cond.code yL_lay cL_lay 4 (some .boolean), Cond.methodLink RL 45 yL_say, Cond.static yL_say, Cond.code yL_say cL_say 4 none, Cond.methodLink RL 22 yJ0_length_8abf5, Cond.instanceMethod yJ0_length_8abf5, Cond.selects RJ0 yJ0_length_8abf5 yJ0_length_8abf5, Cond.initialized RJ0, Cond.code yJ0_length_8abf5 cJ0_length_8abf5 1 (some .int), Cond.fieldLink RJ0 9 "java/lang/String" "value" "[B"]
def wsL_law_r9 : List Cond := [Cond.methodLink RJ0 335 yJ0_coder_7d493, Cond.instanceMethod yJ0_coder_7d493, Cond.selects RJ0 yJ0_coder_7d493 yJ0_coder_7d493, Cond.code yJ0_coder_7d493 cJ0_coder_7d493 1 (some .byte), Cond.fieldLink RJ0 38 "java/lang/String" "COMPACT_STRINGS" "Z", Cond.fieldLink RJ0 15 "java/lang/String" "coder" "B", Cond.methodLink RL 28 yJ0_charAt_5068e, Cond.instanceMethod yJ0_charAt_5068e, Cond.selects RJ0 yJ0_charAt_5068e yJ0_charAt_5068e, Cond.code yJ0_charAt_5068e cJ0_charAt_5068e 2 (some .char), Cond.methodLink RJ0 492 yJ0_isLatin1_aae02, Cond.instanceMethod yJ0_isLatin1_aae02, Cond.selects RJ0 yJ0_isLatin1_aae02 yJ0_isLatin1_aae02, Cond.code yJ0_isLatin1_aae02 cJ0_isLatin1_aae02 1 (some .boolean), Cond.methodLink RJ0 495 yJ1_charAt_3b067, Cond.static yJ1_charAt_3b067, Cond.initialized RJ1, Cond.code yJ1_charAt_3b067 cJ1_charAt_3b067 2 (some .char), Cond.methodLink RJ1 9 yJ0_checkIndex_df160, Cond.static yJ0_checkIndex_df160, Cond.code yJ0_checkIndex_df160 cJ0_checkIndex_df160 2 none, Cond.fieldLink RJ0 1053 "jdk/internal/util/Preconditions" "SIOOBE_FORMATTER" "Ljava/util/function/BiFunction;", Cond.methodLink RJ0 1059 yJ3_checkIndex_8e157, Cond.static yJ3_checkIndex_8e157]
def wsL_law_r10 : List Cond := [Cond.initialized RJ3, Cond.code yJ3_checkIndex_8e157 cJ3_checkIndex_8e157 3 (some .int), Cond.methodLink RJ0 498 yJ2_charAt_3b067, Cond.static yJ2_charAt_3b067, Cond.initialized RJ2, Cond.code yJ2_charAt_3b067 cJ2_charAt_3b067 2 (some .char), Cond.methodLink RJ2 67 yJ2_checkIndex_2214a, Cond.static yJ2_checkIndex_2214a, Cond.code yJ2_checkIndex_2214a cJ2_checkIndex_2214a 2 none, Cond.methodLink RJ2 48 yJ2_length_9d52b, Cond.static yJ2_length_9d52b, Cond.code yJ2_length_9d52b cJ2_length_9d52b 1 (some .int), Cond.methodLink RJ2 414 yJ0_checkIndex_df160, Cond.methodLink RJ2 71 yJ2_getChar_3b067, Cond.static yJ2_getChar_3b067, Cond.code yJ2_getChar_3b067 cJ2_getChar_3b067 2 (some .char), Cond.fieldLink RJ2 44 "java/lang/StringUTF16" "$assertionsDisabled" "Z", Cond.fieldLink RJ2 59 "java/lang/StringUTF16" "HI_BYTE_SHIFT" "I", Cond.fieldLink RJ2 63 "java/lang/StringUTF16" "LO_BYTE_SHIFT" "I", Cond.methodLink RL 32 yL_put, Cond.static yL_put, Cond.code yL_put cL_put 3 none, Cond.methodLink RL 7 yL_feed, Cond.static yL_feed]
def wsL_law_r11 : List Cond := [Cond.code yL_feed cL_feed 3 none, Cond.methodLink RL 13 yL_four, Cond.static yL_four, Cond.code yL_four cL_four 2 (some .int), Cond.methodLink RL 17 yX10_feed, Cond.instanceMethod yX10_feed, Cond.selects RX10 yX10_feed yX10_feed, Cond.code yX10_feed cX10_feed 6 (some .int), Cond.fieldLink RX10 150 "HalfAccuser$Tape" "length" "I", Cond.methodLink RX10 142 yX6_hasRoom, Cond.instanceMethod yX6_hasRoom, Cond.selects RX6 yX6_hasRoom yX6_hasRoom, Cond.code yX6_hasRoom cX6_hasRoom 1 (some .boolean), Cond.fieldLink RX6 26 "HalfAccuser$Tape" "length" "I", Cond.methodLink RX10 146 yX6_add, Cond.instanceMethod yX6_add, Cond.selects RX6 yX6_add yX6_add, Cond.code yX6_add cX6_add 3 none, Cond.methodLink RL 49 yL_number, Cond.static yL_number, Cond.code yL_number cL_number 3 none, Cond.methodLink RL 62 yL_name, Cond.static yL_name, Cond.code yL_name cL_name 4 none]
def wsL_law_r12 : List Cond := [Cond.methodLink RL 78 yL_load, Cond.static yL_load, Cond.code yL_load cL_load 3 (some .int), Cond.methodLink RL 36 yX10_city, Cond.instanceMethod yX10_city, Cond.selects RX10 yX10_city yX10_city, Cond.code yX10_city cX10_city 2 (some .int), Cond.fieldLink RX10 170 "HalfAccuser$City" "deeds" "I", Cond.methodLink RX10 153 yX10_refused, Cond.instanceMethod yX10_refused, Cond.selects RX10 yX10_refused yX10_refused, Cond.code yX10_refused cX10_refused 2 (some .int), Cond.fieldLink RX10 106 "HalfAccuser" "latestStatus" "I", Cond.methodLink RX10 157 yX6_split, Cond.instanceMethod yX6_split, Cond.selects RX6 yX6_split yX6_split, Cond.code yX6_split cX6_split 6 none, Cond.fieldLink RX6 30 "HalfAccuser$Tape" "tokens" "I", Cond.fieldLink RX6 59 "HalfAccuser$Tape" "now" "I", Cond.methodLink RX6 33 yX6_byteAt, Cond.instanceMethod yX6_byteAt, Cond.selects RX6 yX6_byteAt yX6_byteAt, Cond.code yX6_byteAt cX6_byteAt 2 (some .int), Cond.methodLink RX6 37 yX6_isLetter]
def wsL_law_r13 : List Cond := [Cond.static yX6_isLetter, Cond.code yX6_isLetter cX6_isLetter 1 (some .boolean), Cond.methodLink RX6 41 yX6_runEnd, Cond.instanceMethod yX6_runEnd, Cond.selects RX6 yX6_runEnd yX6_runEnd, Cond.code yX6_runEnd cX6_runEnd 5 (some .int), Cond.methodLink RX6 49 yX6_isDigit, Cond.static yX6_isDigit, Cond.code yX6_isDigit cX6_isDigit 1 (some .boolean), Cond.methodLink RX6 45 yX6_addWord, Cond.instanceMethod yX6_addWord, Cond.selects RX6 yX6_addWord yX6_addWord, Cond.code yX6_addWord cX6_addWord 4 none, Cond.methodLink RX6 72 yX6_keywordOf, Cond.instanceMethod yX6_keywordOf, Cond.selects RX6 yX6_keywordOf yX6_keywordOf, Cond.code yX6_keywordOf cX6_keywordOf 8 (some .int), Cond.methodLink RX6 82 yJ0_length_8abf5, Cond.methodLink RX6 87 yJ0_charAt_5068e, Cond.methodLink RX6 55 yX6_addToken, Cond.instanceMethod yX6_addToken, Cond.selects RX6 yX6_addToken yX6_addToken, Cond.code yX6_addToken cX6_addToken 5 none, Cond.static yX10_put]
def wsL_law_r14 : List Cond := [Cond.code yX10_put cX10_put 3 none, Cond.static yX10_put_, Cond.code yX10_put_ cX10_put_ 4 none, Cond.methodLink RX6 76 yX6_nameOf, Cond.instanceMethod yX6_nameOf, Cond.selects RX6 yX6_nameOf yX6_nameOf, Cond.code yX6_nameOf cX6_nameOf 6 (some .long), Cond.constantLong RX6 91 (32), Cond.constantLong RX6 93 (97), Cond.methodLink RX6 52 yX6_addNumber, Cond.instanceMethod yX6_addNumber, Cond.selects RX6 yX6_addNumber yX6_addNumber, Cond.code yX6_addNumber cX6_addNumber 5 none, Cond.methodLink RX6 62 yX6_pass, Cond.instanceMethod yX6_pass, Cond.selects RX6 yX6_pass yX6_pass, Cond.code yX6_pass cX6_pass 1 none, Cond.fieldLink RX6 98 "HalfAccuser$Tape" "value" "J", Cond.fieldLink RX6 111 "HalfAccuser$Tape" "taken" "J", Cond.fieldLink RX6 95 "HalfAccuser$Tape" "kind" "I", Cond.fieldLink RX6 105 "HalfAccuser$Tape" "place" "I", Cond.static yX10_at, Cond.code yX10_at cX10_at 2 (some .int), Cond.static yX10_at_]
def wsL_law_r15 : List Cond := [Cond.code yX10_at_ cX10_at_ 2 (some .long), Cond.methodLink RX10 160 yX1_readText, Cond.instanceMethod yX1_readText, Cond.selects RX1 yX1_readText yX1_readText, Cond.code yX1_readText cX1_readText 4 (some .boolean), Cond.fieldLink RX1 24 "HalfAccuser$CityReader" "rulesTold" "I", Cond.fieldLink RX1 30 "HalfAccuser$Tape" "kind" "I", Cond.methodLink RX1 19 yX0_clear, Cond.methodLink RX1 33 yX6_wordNow, Cond.instanceMethod yX6_wordNow, Cond.selects RX6 yX6_wordNow yX6_wordNow, Cond.code yX6_wordNow cX6_wordNow 1 (some .int), Cond.methodLink RX1 37 yX1_readRule, Cond.instanceMethod yX1_readRule, Cond.selects RX1 yX1_readRule yX1_readRule, Cond.code yX1_readRule cX1_readRule 2 (some .boolean), Cond.fieldLink RX1 72 "HalfAccuser$City" "rules" "[I", Cond.static yX10_isIn, Cond.code yX10_isIn cX10_isIn 2 (some .boolean), Cond.methodLink RX1 48 yX6_blame, Cond.instanceMethod yX6_blame, Cond.selects RX6 yX6_blame yX6_blame, Cond.code yX6_blame cX6_blame 2 (some .boolean), Cond.fieldLink RX6 102 "HalfAccuser$Tape" "fault" "I"]
def wsL_law_r16 : List Cond := [Cond.fieldLink RX6 108 "HalfAccuser$Tape" "faultPlace" "I", Cond.methodLink RX1 55 yX6_pass, Cond.methodLink RX1 69 yX6_takeNumber, Cond.instanceMethod yX6_takeNumber, Cond.selects RX6 yX6_takeNumber yX6_takeNumber, Cond.code yX6_takeNumber cX6_takeNumber 3 (some .boolean), Cond.methodLink RX6 124 yX6_blame, Cond.methodLink RX1 75 yX6_number, Cond.instanceMethod yX6_number, Cond.selects RX6 yX6_number yX6_number, Cond.code yX6_number cX6_number 1 (some .int), Cond.methodLink RX1 82 yX6_takeSemicolon, Cond.instanceMethod yX6_takeSemicolon, Cond.selects RX6 yX6_takeSemicolon yX6_takeSemicolon, Cond.code yX6_takeSemicolon cX6_takeSemicolon 1 (some .boolean), Cond.constantLong RX6 127 (59), Cond.methodLink RX1 41 yX1_readPerson, Cond.instanceMethod yX1_readPerson, Cond.selects RX1 yX1_readPerson yX1_readPerson, Cond.code yX1_readPerson cX1_readPerson 2 (some .boolean), Cond.fieldLink RX1 85 "HalfAccuser$City" "people" "I", Cond.fieldLink RX1 91 "HalfAccuser$Tape" "taken" "J", Cond.fieldLink RX1 106 "HalfAccuser$City" "coins" "[I", Cond.fieldLink RX1 109 "HalfAccuser$City" "skills" "[I"]
def wsL_law_r17 : List Cond := [Cond.methodLink RX1 88 yX1_takeNewName, Cond.instanceMethod yX1_takeNewName, Cond.selects RX1 yX1_takeNewName yX1_takeNewName, Cond.code yX1_takeNewName cX1_takeNewName 1 (some .boolean), Cond.fieldLink RX1 118 "HalfAccuser$Tape" "value" "J", Cond.methodLink RX1 121 yX0_personBy, Cond.instanceMethod yX0_personBy, Cond.selects RX0 yX0_personBy yX0_personBy, Cond.code yX0_personBy cX0_personBy 4 (some .int), Cond.methodLink RX1 128 yX0_deedBy, Cond.instanceMethod yX0_deedBy, Cond.selects RX0 yX0_deedBy yX0_deedBy, Cond.code yX0_deedBy cX0_deedBy 4 (some .int), Cond.methodLink RX1 95 yX0_addPerson, Cond.instanceMethod yX0_addPerson, Cond.selects RX0 yX0_addPerson yX0_addPerson, Cond.code yX0_addPerson cX0_addPerson 4 (some .int), Cond.methodLink RX1 99 yX6_isWord, Cond.instanceMethod yX6_isWord, Cond.selects RX6 yX6_isWord yX6_isWord, Cond.code yX6_isWord cX6_isWord 2 (some .boolean), Cond.methodLink RX1 102 yX1_takeWordAndNumber, Cond.instanceMethod yX1_takeWordAndNumber, Cond.selects RX1 yX1_takeWordAndNumber yX1_takeWordAndNumber]
def wsL_law_r18 : List Cond := [Cond.code yX1_takeWordAndNumber cX1_takeWordAndNumber 4 (some .boolean), Cond.methodLink RX1 115 yX6_takeWord, Cond.instanceMethod yX6_takeWord, Cond.selects RX6 yX6_takeWord yX6_takeWord, Cond.code yX6_takeWord cX6_takeWord 2 (some .boolean), Cond.methodLink RX6 121 yX6_isWord, Cond.methodLink RX1 45 yX1_readDeed, Cond.instanceMethod yX1_readDeed, Cond.selects RX1 yX1_readDeed yX1_readDeed, Cond.code yX1_readDeed cX1_readDeed 5 (some .boolean), Cond.fieldLink RX1 112 "HalfAccuser$City" "deeds" "I", Cond.methodLink RX1 124 yX0_addDeed, Cond.instanceMethod yX0_addDeed, Cond.selects RX0 yX0_addDeed yX0_addDeed, Cond.code yX0_addDeed cX0_addDeed 7 (some .int), Cond.methodLink RX10 163 yX10_tellFault, Cond.instanceMethod yX10_tellFault, Cond.selects RX10 yX10_tellFault yX10_tellFault, Cond.code yX10_tellFault cX10_tellFault 2 (some .boolean), Cond.fieldLink RX10 446 "HalfAccuser$Tape" "fault" "I", Cond.fieldLink RX10 449 "HalfAccuser$Tape" "faultPlace" "I", Cond.methodLink RX10 167 yX0_copyFrom, Cond.instanceMethod yX0_copyFrom, Cond.selects RX0 yX0_copyFrom yX0_copyFrom]
def wsL_law_r19 : List Cond := [Cond.code yX0_copyFrom cX0_copyFrom 2 none, Cond.static yX10_copy_, Cond.code yX10_copy_ cX10_copy_ 2 none, Cond.methodLink RX0 89 yX8_copyFrom, Cond.instanceMethod yX8_copyFrom, Cond.selects RX8 yX8_copyFrom yX8_copyFrom, Cond.code yX8_copyFrom cX8_copyFrom 2 none, Cond.methodLink RX10 173 yX10_told, Cond.instanceMethod yX10_told, Cond.selects RX10 yX10_told yX10_told, Cond.code yX10_told cX10_told 2 (some .int), Cond.methodLink RL 40 yX10_years, Cond.instanceMethod yX10_years, Cond.selects RX10 yX10_years yX10_years, Cond.code yX10_years cX10_years 2 (some .int), Cond.fieldLink RX10 182 "HalfAccuser$Years" "steps" "I", Cond.methodLink RX10 176 yX9_readText, Cond.instanceMethod yX9_readText, Cond.selects RX9 yX9_readText yX9_readText, Cond.code yX9_readText cX9_readText 3 (some .boolean), Cond.fieldLink RX9 32 "HalfAccuser$Years" "there" "Z", Cond.fieldLink RX9 36 "HalfAccuser$YearsReader" "depth" "I", Cond.fieldLink RX9 42 "HalfAccuser$Tape" "kind" "I", Cond.methodLink RX9 27 yX8_clear]
def wsL_law_r20 : List Cond := [Cond.methodLink RX9 45 yX6_isWord, Cond.methodLink RX9 49 yX9_readEnd, Cond.instanceMethod yX9_readEnd, Cond.selects RX9 yX9_readEnd yX9_readEnd, Cond.code yX9_readEnd cX9_readEnd 1 (some .boolean), Cond.methodLink RX9 56 yX6_blame, Cond.methodLink RX9 63 yX8_add, Cond.instanceMethod yX8_add, Cond.selects RX8 yX8_add yX8_add, Cond.code yX8_add cX8_add 6 (some .int), Cond.methodLink RX9 67 yX8_join, Cond.instanceMethod yX8_join, Cond.selects RX8 yX8_join yX8_join, Cond.code yX8_join cX8_join 3 none, Cond.methodLink RX9 71 yX6_pass, Cond.methodLink RX9 74 yX6_takeSemicolon, Cond.methodLink RX9 53 yX9_readStep, Cond.instanceMethod yX9_readStep, Cond.selects RX9 yX9_readStep yX9_readStep, Cond.code yX9_readStep cX9_readStep 3 (some .boolean), Cond.fieldLink RX9 84 "HalfAccuser$Years" "steps" "I", Cond.methodLink RX9 77 yX6_wordNow, Cond.methodLink RX9 81 yX9_beginsStep, Cond.static yX9_beginsStep]
def wsL_law_r21 : List Cond := [Cond.code yX9_beginsStep cX9_beginsStep 1 (some .boolean), Cond.methodLink RX9 87 yX9_readCharge, Cond.instanceMethod yX9_readCharge, Cond.selects RX9 yX9_readCharge yX9_readCharge, Cond.code yX9_readCharge cX9_readCharge 2 (some .boolean), Cond.fieldLink RX9 108 "HalfAccuser$YearsReader" "named" "I", Cond.methodLink RX9 102 yX9_personNow, Cond.instanceMethod yX9_personNow, Cond.selects RX9 yX9_personNow yX9_personNow, Cond.code yX9_personNow cX9_personNow 1 (some .int), Cond.fieldLink RX9 128 "HalfAccuser$Tape" "value" "J", Cond.methodLink RX9 138 yX0_personBy, Cond.methodLink RX9 105 yX9_takeNamed, Cond.instanceMethod yX9_takeNamed, Cond.selects RX9 yX9_takeNamed yX9_takeNamed, Cond.code yX9_takeNamed cX9_takeNamed 2 (some .boolean), Cond.methodLink RX9 111 yX9_deedNow, Cond.instanceMethod yX9_deedNow, Cond.selects RX9 yX9_deedNow yX9_deedNow, Cond.code yX9_deedNow cX9_deedNow 1 (some .int), Cond.methodLink RX9 144 yX0_deedBy, Cond.methodLink RX9 90 yX9_readDrop, Cond.instanceMethod yX9_readDrop, Cond.selects RX9 yX9_readDrop yX9_readDrop]
def wsL_law_r22 : List Cond := [Cond.code yX9_readDrop cX9_readDrop 2 (some .boolean), Cond.methodLink RX9 114 yX6_takeWord, Cond.methodLink RX9 117 yX6_takeNumber, Cond.methodLink RX9 121 yX6_number, Cond.methodLink RX9 93 yX9_readEarn, Cond.instanceMethod yX9_readEarn, Cond.selects RX9 yX9_readEarn yX9_readEarn, Cond.code yX9_readEarn cX9_readEarn 1 (some .boolean), Cond.methodLink RX9 96 yX9_readTest, Cond.instanceMethod yX9_readTest, Cond.selects RX9 yX9_readTest yX9_readTest, Cond.code yX9_readTest cX9_readTest 3 (some .boolean), Cond.constantLong RX9 132 (59), Cond.methodLink RX9 124 yX9_open, Cond.instanceMethod yX9_open, Cond.selects RX9 yX9_open yX9_open, Cond.code yX9_open cX9_open 2 none, Cond.methodLink RX9 99 yX9_readLoop, Cond.instanceMethod yX9_readLoop, Cond.selects RX9 yX9_readLoop yX9_readLoop, Cond.code yX9_readLoop cX9_readLoop 1 (some .boolean), Cond.methodLink RX10 177 yX8_copyFrom, Cond.methodLink RL 121 yX10_many, Cond.instanceMethod yX10_many]
def wsL_law_r23 : List Cond := [Cond.selects RX10 yX10_many yX10_many, Cond.code yX10_many cX10_many 2 (some .int), Cond.methodLink RX10 185 yX0_fact, Cond.instanceMethod yX0_fact, Cond.selects RX0 yX0_fact yX0_fact, Cond.code yX0_fact cX0_fact 2 (some .int), Cond.methodLink RX0 153 yX0_deedsThat, Cond.instanceMethod yX0_deedsThat, Cond.selects RX0 yX0_deedsThat yX0_deedsThat, Cond.code yX0_deedsThat cX0_deedsThat 4 (some .int), Cond.methodLink RX0 156 yX0_ruinedPeople, Cond.instanceMethod yX0_ruinedPeople, Cond.selects RX0 yX0_ruinedPeople yX0_ruinedPeople, Cond.code yX0_ruinedPeople cX0_ruinedPeople 3 (some .int), Cond.methodLink RX0 118 yX0_isRuined, Cond.instanceMethod yX0_isRuined, Cond.selects RX0 yX0_isRuined yX0_isRuined, Cond.code yX0_isRuined cX0_isRuined 2 (some .boolean), Cond.methodLink RX0 138 yX0_ruleOf, Cond.instanceMethod yX0_ruleOf, Cond.selects RX0 yX0_ruleOf yX0_ruleOf, Cond.code yX0_ruleOf cX0_ruleOf 2 (some .int), Cond.methodLink RL 124 yX10_person, Cond.instanceMethod yX10_person]
def wsL_law_r24 : List Cond := [Cond.selects RX10 yX10_person yX10_person, Cond.code yX10_person cX10_person 3 (some .int), Cond.methodLink RX10 188 yX0_hasPerson, Cond.instanceMethod yX0_hasPerson, Cond.selects RX0 yX0_hasPerson yX0_hasPerson, Cond.code yX0_hasPerson cX0_hasPerson 2 (some .boolean), Cond.methodLink RX10 191 yX0_personFact, Cond.instanceMethod yX0_personFact, Cond.selects RX0 yX0_personFact yX0_personFact, Cond.code yX0_personFact cX0_personFact 3 (some .int), Cond.methodLink RX0 160 yX0_deedsOf, Cond.instanceMethod yX0_deedsOf, Cond.selects RX0 yX0_deedsOf yX0_deedsOf, Cond.code yX0_deedsOf cX0_deedsOf 4 (some .int), Cond.methodLink RX0 111 yX0_isOwn, Cond.instanceMethod yX0_isOwn, Cond.selects RX0 yX0_isOwn yX0_isOwn, Cond.code yX0_isOwn cX0_isOwn 3 (some .boolean), Cond.methodLink RL 127 yX10_quiet, Cond.instanceMethod yX10_quiet, Cond.selects RX10 yX10_quiet yX10_quiet, Cond.code yX10_quiet cX10_quiet 1 (some .int), Cond.methodLink RX10 339 yX0_openDeeds, Cond.instanceMethod yX0_openDeeds]
def wsL_law_r25 : List Cond := [Cond.selects RX0 yX0_openDeeds yX0_openDeeds, Cond.code yX0_openDeeds cX0_openDeeds 1 (some .int), Cond.methodLink RX10 307 yX10_seen, Cond.instanceMethod yX10_seen, Cond.selects RX10 yX10_seen yX10_seen, Cond.code yX10_seen cX10_seen 1 (some (.object "HalfAccuser$Hopes")), Cond.methodLink RX10 365 yX3_see, Cond.instanceMethod yX3_see, Cond.selects RX3 yX3_see yX3_see, Cond.code yX3_see cX3_see 3 none, Cond.fieldLink RX3 75 "HalfAccuser$City" "people" "I", Cond.fieldLink RX3 82 "HalfAccuser$City" "deeds" "I", Cond.methodLink RX3 64 yX3_weigh, Cond.instanceMethod yX3_weigh, Cond.selects RX3 yX3_weigh yX3_weigh, Cond.code yX3_weigh cX3_weigh 4 none, Cond.methodLink RX3 50 yJ7_fill_d0a16, Cond.static yJ7_fill_d0a16, Cond.code yJ7_fill_d0a16 cJ7_fill_d0a16 5 none, Cond.methodLink RX3 44 yX0_ruleOf, Cond.methodLink RX3 68 yX3_waysToWin, Cond.instanceMethod yX3_waysToWin, Cond.selects RX3 yX3_waysToWin yX3_waysToWin, Cond.code yX3_waysToWin cX3_waysToWin 5 (some .long)]
def wsL_law_r26 : List Cond := [Cond.methodLink RX3 72 yX3_waysToOwe, Cond.instanceMethod yX3_waysToOwe, Cond.selects RX3 yX3_waysToOwe yX3_waysToOwe, Cond.code yX3_waysToOwe cX3_waysToOwe 5 (some .long), Cond.methodLink RX3 85 yX3_seeCharge, Cond.instanceMethod yX3_seeCharge, Cond.selects RX3 yX3_seeCharge yX3_seeCharge, Cond.code yX3_seeCharge cX3_seeCharge 10 none, Cond.fieldLink RX3 96 "HalfAccuser$City" "fines" "[I", Cond.methodLink RX3 89 yX3_cellOf, Cond.static yX3_cellOf, Cond.code yX3_cellOf cX3_cellOf 2 (some .int), Cond.methodLink RX3 93 yX0_chanceOf, Cond.instanceMethod yX0_chanceOf, Cond.selects RX0 yX0_chanceOf yX0_chanceOf, Cond.code yX0_chanceOf cX0_chanceOf 3 (some .int), Cond.static yX10_limited, Cond.code yX10_limited cX10_limited 2 (some .int), Cond.methodLink RX10 464 Lib.Math.max.name, Cond.static Lib.Math.max.name, Cond.code Lib.Math.max.name Lib.Math.max.code 2 (some .int), Cond.methodLink RX3 102 yX0_partOf, Cond.static yX0_partOf, Cond.code yX0_partOf cX0_partOf 2 (some .int)]
def wsL_law_r27 : List Cond := [Cond.methodLink RX3 105 yX0_mayCharge, Cond.instanceMethod yX0_mayCharge, Cond.selects RX0 yX0_mayCharge yX0_mayCharge, Cond.code yX0_mayCharge cX0_mayCharge 3 (some .boolean), Cond.methodLink RX0 107 yX0_isOpen, Cond.instanceMethod yX0_isOpen, Cond.selects RX0 yX0_isOpen yX0_isOpen, Cond.code yX0_isOpen cX0_isOpen 2 (some .boolean), Cond.methodLink RX10 220 yX0_ruleOf, Cond.methodLink RX10 343 yX3_gladSet, Cond.instanceMethod yX3_gladSet, Cond.selects RX3 yX3_gladSet yX3_gladSet, Cond.code yX3_gladSet cX3_gladSet 5 (some .int), Cond.methodLink RX3 145 yX3_isAnyGlad, Cond.instanceMethod yX3_isAnyGlad, Cond.selects RX3 yX3_isAnyGlad yX3_isAnyGlad, Cond.code yX3_isAnyGlad cX3_isAnyGlad 6 (some .boolean), Cond.methodLink RX3 112 yX3_isWithin, Cond.instanceMethod yX3_isWithin, Cond.selects RX3 yX3_isWithin yX3_isWithin, Cond.code yX3_isWithin cX3_isWithin 3 (some .boolean), Cond.methodLink RL 130 yX10_gladBy, Cond.instanceMethod yX10_gladBy, Cond.selects RX10 yX10_gladBy yX10_gladBy]
def wsL_law_r28 : List Cond := [Cond.code yX10_gladBy cX10_gladBy 3 (some .int), Cond.methodLink RL 133 yX10_accuser, Cond.instanceMethod yX10_accuser, Cond.selects RX10 yX10_accuser yX10_accuser, Cond.code yX10_accuser cX10_accuser 2 (some .int), Cond.methodLink RX10 194 yX0_hasDeed, Cond.instanceMethod yX0_hasDeed, Cond.selects RX0 yX0_hasDeed yX0_hasDeed, Cond.code yX0_hasDeed cX0_hasDeed 2 (some .boolean), Cond.methodLink RX10 326 yX3_bestAccuser, Cond.instanceMethod yX3_bestAccuser, Cond.selects RX3 yX3_bestAccuser yX3_bestAccuser, Cond.code yX3_bestAccuser cX3_bestAccuser 8 (some .int), Cond.methodLink RX3 125 yX3_gainToHave, Cond.instanceMethod yX3_gainToHave, Cond.selects RX3 yX3_gainToHave yX3_gainToHave, Cond.code yX3_gainToHave cX3_gainToHave 3 (some .long), Cond.methodLink RX3 119 Lib.MathLoose.max_long.x, Cond.static Lib.MathLoose.max_long.x, Cond.code Lib.MathLoose.max_long.x Lib.MathLoose.max_long.code 4 (some .long), Cond.methodLink RX3 115 yX3_gainOf, Cond.instanceMethod yX3_gainOf, Cond.selects RX3 yX3_gainOf yX3_gainOf, Cond.code yX3_gainOf cX3_gainOf 3 (some .long)]
def wsL_law_r29 : List Cond := [Cond.methodLink RX10 320 yX10_toldIfAny, Cond.instanceMethod yX10_toldIfAny, Cond.selects RX10 yX10_toldIfAny yX10_toldIfAny, Cond.code yX10_toldIfAny cX10_toldIfAny 2 (some .int), Cond.methodLink RL 136 yX10_leastShare, Cond.instanceMethod yX10_leastShare, Cond.selects RX10 yX10_leastShare yX10_leastShare, Cond.code yX10_leastShare cX10_leastShare 2 (some .int), Cond.methodLink RX10 352 yX3_leastGladShare, Cond.instanceMethod yX3_leastGladShare, Cond.selects RX3 yX3_leastGladShare yX3_leastGladShare, Cond.code yX3_leastGladShare cX3_leastGladShare 4 (some .int), Cond.methodLink RL 139 yX10_mostPenalty, Cond.instanceMethod yX10_mostPenalty, Cond.selects RX10 yX10_mostPenalty yX10_mostPenalty, Cond.code yX10_mostPenalty cX10_mostPenalty 2 (some .int), Cond.methodLink RX10 358 yX3_mostGladPenalty, Cond.instanceMethod yX3_mostGladPenalty, Cond.selects RX3 yX3_mostGladPenalty yX3_mostGladPenalty, Cond.code yX3_mostGladPenalty cX3_mostGladPenalty 4 (some .int), Cond.methodLink RL 142 yX10_leastFine, Cond.instanceMethod yX10_leastFine, Cond.selects RX10 yX10_leastFine yX10_leastFine, Cond.code yX10_leastFine cX10_leastFine 2 (some .int)]
def wsL_law_r30 : List Cond := [Cond.methodLink RX10 355 yX3_leastGladFine, Cond.instanceMethod yX3_leastGladFine, Cond.selects RX3 yX3_leastGladFine yX3_leastGladFine, Cond.code yX3_leastGladFine cX3_leastGladFine 4 (some .int), Cond.methodLink RL 145 yX10_deed, Cond.instanceMethod yX10_deed, Cond.selects RX10 yX10_deed yX10_deed, Cond.code yX10_deed cX10_deed 3 (some .int), Cond.methodLink RX10 197 yX0_isOpen, Cond.methodLink RX10 200 yX0_deedFact, Cond.instanceMethod yX0_deedFact, Cond.selects RX0 yX0_deedFact yX0_deedFact, Cond.code yX0_deedFact cX0_deedFact 3 (some .int), Cond.methodLink RL 147 yX10_friend, Cond.instanceMethod yX10_friend, Cond.selects RX10 yX10_friend yX10_friend, Cond.code yX10_friend cX10_friend 2 (some .int), Cond.methodLink RX10 336 yX3_mildestAccuser, Cond.instanceMethod yX3_mildestAccuser, Cond.selects RX3 yX3_mildestAccuser yX3_mildestAccuser, Cond.code yX3_mildestAccuser cX3_mildestAccuser 6 (some .int), Cond.methodLink RX3 132 yX3_lossOf, Cond.instanceMethod yX3_lossOf, Cond.selects RX3 yX3_lossOf yX3_lossOf]
def wsL_law_r31 : List Cond := [Cond.code yX3_lossOf cX3_lossOf 3 (some .long), Cond.methodLink RL 150 yX10_can, Cond.instanceMethod yX10_can, Cond.selects RX10 yX10_can yX10_can, Cond.code yX10_can cX10_can 3 (some .int), Cond.methodLink RX10 216 yX10_areThere, Cond.instanceMethod yX10_areThere, Cond.selects RX10 yX10_areThere yX10_areThere, Cond.code yX10_areThere cX10_areThere 3 (some .boolean), Cond.methodLink RX10 223 yX0_mayCharge, Cond.methodLink RL 153 yX10_wins, Cond.instanceMethod yX10_wins, Cond.selects RX10 yX10_wins yX10_wins, Cond.code yX10_wins cX10_wins 4 (some .boolean), Cond.methodLink RX10 271 yX10_voteStatus, Cond.instanceMethod yX10_voteStatus, Cond.selects RX10 yX10_voteStatus yX10_voteStatus, Cond.code yX10_voteStatus cX10_voteStatus 3 (some .int), Cond.methodLink RX10 277 yX0_isOwn, Cond.methodLink RX10 116 yX10_settled, Cond.instanceMethod yX10_settled, Cond.selects RX10 yX10_settled yX10_settled, Cond.code yX10_settled cX10_settled 2 (some .boolean), Cond.methodLink RX10 274 yX0_chanceOf]
def wsL_law_r32 : List Cond := [Cond.methodLink RX10 280 yX3_weigh, Cond.methodLink RX10 298 yX3_waysToWin, Cond.methodLink RX10 290 yX3_whole, Cond.instanceMethod yX3_whole, Cond.selects RX3 yX3_whole yX3_whole, Cond.code yX3_whole cX3_whole 1 (some .long), Cond.methodLink RX10 294 yX10_tell, Cond.instanceMethod yX10_tell, Cond.selects RX10 yX10_tell yX10_tell, Cond.code yX10_tell cX10_tell 7 (some .boolean), Cond.methodLink RX10 436 Lib.MathLoose.abs_long.x, Cond.static Lib.MathLoose.abs_long.x, Cond.code Lib.MathLoose.abs_long.x Lib.MathLoose.abs_long.code 2 (some .long), Cond.fieldLink RX10 109 "HalfAccuser" "fractionTop" "J", Cond.methodLink RX10 442 yX10_commonDivisor, Cond.static yX10_commonDivisor, Cond.code yX10_commonDivisor cX10_commonDivisor 11 (some .long), Cond.methodLink RL 109 yX10_top, Cond.instanceMethod yX10_top, Cond.selects RX10 yX10_top yX10_top, Cond.code yX10_top cX10_top 1 (some .long), Cond.methodLink RL 105 yX10_bottom, Cond.instanceMethod yX10_bottom, Cond.selects RX10 yX10_bottom yX10_bottom]
def wsL_law_r33 : List Cond := [Cond.code yX10_bottom cX10_bottom 1 (some .long), Cond.methodLink RL 157 yX10_owes, Cond.instanceMethod yX10_owes, Cond.selects RX10 yX10_owes yX10_owes, Cond.code yX10_owes cX10_owes 4 (some .boolean), Cond.methodLink RX10 301 yX3_waysToOwe, Cond.methodLink RL 160 yX10_gain, Cond.instanceMethod yX10_gain, Cond.selects RX10 yX10_gain yX10_gain, Cond.code yX10_gain cX10_gain 4 (some .boolean), Cond.methodLink RX10 304 yX10_meanStatus, Cond.instanceMethod yX10_meanStatus, Cond.selects RX10 yX10_meanStatus yX10_meanStatus, Cond.code yX10_meanStatus cX10_meanStatus 4 (some .int), Cond.methodLink RX10 452 yX0_isRuined, Cond.methodLink RX10 311 yX3_gainOf, Cond.methodLink RL 163 yX10_loss, Cond.instanceMethod yX10_loss, Cond.selects RX10 yX10_loss yX10_loss, Cond.code yX10_loss cX10_loss 4 (some .boolean), Cond.methodLink RX10 314 yX3_lossOf, Cond.methodLink RL 166 yX10_trade, Cond.instanceMethod yX10_trade, Cond.selects RX10 yX10_trade yX10_trade]
def wsL_law_r34 : List Cond := [Cond.code yX10_trade cX10_trade 6 (some .int), Cond.methodLink RX10 346 yX3_fewestCoins, Cond.instanceMethod yX3_fewestCoins, Cond.selects RX3 yX3_fewestCoins yX3_fewestCoins, Cond.code yX3_fewestCoins cX3_fewestCoins 5 (some .int), Cond.methodLink RX3 142 yX3_whole, Cond.methodLink RX10 349 yX3_mostCoins, Cond.instanceMethod yX3_mostCoins, Cond.selects RX3 yX3_mostCoins yX3_mostCoins, Cond.code yX3_mostCoins cX3_mostCoins 3 (some .int), Cond.methodLink RL 170 yX10_best, Cond.instanceMethod yX10_best, Cond.selects RX10 yX10_best yX10_best, Cond.code yX10_best cX10_best 2 (some .int), Cond.methodLink RX10 317 yX3_bestDeed, Cond.instanceMethod yX3_bestDeed, Cond.selects RX3 yX3_bestDeed yX3_bestDeed, Cond.code yX3_bestDeed cX3_bestDeed 8 (some .int), Cond.methodLink RL 173 yX10_plan, Cond.instanceMethod yX10_plan, Cond.selects RX10 yX10_plan yX10_plan, Cond.code yX10_plan cX10_plan 3 (some .boolean), Cond.methodLink RX10 323 yX3_bestSum, Cond.instanceMethod yX3_bestSum]
def wsL_law_r35 : List Cond := [Cond.selects RX3 yX3_bestSum yX3_bestSum, Cond.code yX3_bestSum cX3_bestSum 6 (some .long), Cond.methodLink RX3 128 yX3_sortIn, Cond.instanceMethod yX3_sortIn, Cond.selects RX3 yX3_sortIn yX3_sortIn, Cond.code yX3_sortIn cX3_sortIn 5 none, Cond.methodLink RL 176 yX10_bound, Cond.instanceMethod yX10_bound, Cond.selects RX10 yX10_bound yX10_bound, Cond.code yX10_bound cX10_bound 3 (some .int), Cond.methodLink RX10 405 yX5_most, Cond.instanceMethod yX5_most, Cond.selects RX5 yX5_most yX5_most, Cond.code yX5_most cX5_most 4 (some .int), Cond.fieldLink RX5 19 "HalfAccuser$Past" "many" "I", Cond.methodLink RX5 51 yX5_gather, Cond.instanceMethod yX5_gather, Cond.selects RX5 yX5_gather yX5_gather, Cond.code yX5_gather cX5_gather 3 none, Cond.fieldLink RX5 23 "HalfAccuser$City" "deeds" "I", Cond.methodLink RX5 28 yX0_isOwn, Cond.methodLink RX5 55 yX5_prize, Cond.instanceMethod yX5_prize, Cond.selects RX5 yX5_prize yX5_prize]
def wsL_law_r36 : List Cond := [Cond.code yX5_prize cX5_prize 2 (some .int), Cond.fieldLink RX5 36 "HalfAccuser$City" "fines" "[I", Cond.methodLink RX5 43 yX0_ruleOf, Cond.methodLink RX5 47 yX0_partOf, Cond.methodLink RX10 408 yX5_least, Cond.instanceMethod yX5_least, Cond.selects RX5 yX5_least yX5_least, Cond.code yX5_least cX5_least 2 (some .int), Cond.methodLink RL 179 yX10_gained, Cond.instanceMethod yX10_gained, Cond.selects RX10 yX10_gained yX10_gained, Cond.code yX10_gained cX10_gained 4 (some .int), Cond.fieldLink RX10 400 "HalfAccuser$Past" "ways" "I", Cond.methodLink RX10 394 yX10_pastStatus, Cond.instanceMethod yX10_pastStatus, Cond.selects RX10 yX10_pastStatus yX10_pastStatus, Cond.code yX10_pastStatus cX10_pastStatus 3 (some .int), Cond.methodLink RX10 397 yX5_look, Cond.instanceMethod yX5_look, Cond.selects RX5 yX5_look yX5_look, Cond.code yX5_look cX5_look 7 none, Cond.fieldLink RX5 58 "HalfAccuser$Past" "ways" "I", Cond.fieldLink RX5 61 "HalfAccuser$Past" "always" "I", Cond.methodLink RX5 67 yJ6_bitCount_0f7a4]
def wsL_law_r37 : List Cond := [Cond.static yJ6_bitCount_0f7a4, Cond.initialized RJ6, Cond.code yJ6_bitCount_0f7a4 cJ6_bitCount_0f7a4 1 (some .int), Cond.constant RJ6 265 (1431655765), Cond.constant RJ6 266 (858993459), Cond.constant RJ6 267 (252645135), Cond.methodLink RX5 72 yX5_waysToPay, Cond.instanceMethod yX5_waysToPay, Cond.selects RX5 yX5_waysToPay yX5_waysToPay, Cond.code yX5_waysToPay cX5_waysToPay 4 (some .int), Cond.methodLink RX5 75 yX5_choices, Cond.static yX5_choices, Cond.code yX5_choices cX5_choices 4 (some .int), Cond.methodLink RL 182 yX10_sure, Cond.instanceMethod yX10_sure, Cond.selects RX10 yX10_sure yX10_sure, Cond.code yX10_sure cX10_sure 4 (some .int), Cond.fieldLink RX10 402 "HalfAccuser$Past" "always" "I", Cond.methodLink RL 185 yX10_dreaded, Cond.instanceMethod yX10_dreaded, Cond.selects RX10 yX10_dreaded yX10_dreaded, Cond.code yX10_dreaded cX10_dreaded 2 (some .int), Cond.methodLink RX10 329 yX3_worstDeed, Cond.instanceMethod yX3_worstDeed]
def wsL_law_r38 : List Cond := [Cond.selects RX3 yX3_worstDeed yX3_worstDeed, Cond.code yX3_worstDeed cX3_worstDeed 8 (some .int), Cond.methodLink RX3 135 yX0_isOwn, Cond.methodLink RX3 138 yX3_worstLoss, Cond.instanceMethod yX3_worstLoss, Cond.selects RX3 yX3_worstLoss yX3_worstLoss, Cond.code yX3_worstLoss cX3_worstLoss 5 (some .long), Cond.methodLink RL 188 yX10_dread, Cond.instanceMethod yX10_dread, Cond.selects RX10 yX10_dread yX10_dread, Cond.code yX10_dread cX10_dread 2 (some .boolean), Cond.methodLink RX10 332 yX3_dreadOf, Cond.instanceMethod yX3_dreadOf, Cond.selects RX3 yX3_dreadOf yX3_dreadOf, Cond.code yX3_dreadOf cX3_dreadOf 5 (some .long), Cond.methodLink RL 192 yX10_club, Cond.instanceMethod yX10_club, Cond.selects RX10 yX10_club yX10_club, Cond.code yX10_club cX10_club 2 (some .int), Cond.methodLink RX10 377 yX0_isSet, Cond.instanceMethod yX0_isSet, Cond.selects RX0 yX0_isSet yX0_isSet, Cond.code yX0_isSet cX0_isSet 2 (some .boolean), Cond.methodLink RX10 380 yX2_setClub]
def wsL_law_r39 : List Cond := [Cond.instanceMethod yX2_setClub, Cond.selects RX2 yX2_setClub yX2_setClub, Cond.code yX2_setClub cX2_setClub 2 none, Cond.fieldLink RX2 89 "HalfAccuser$City" "people" "I", Cond.methodLink RX2 92 yX3_dreadOf, Cond.methodLink RX10 383 yX2_stayers, Cond.instanceMethod yX2_stayers, Cond.selects RX2 yX2_stayers yX2_stayers, Cond.code yX2_stayers cX2_stayers 5 (some .int), Cond.methodLink RX2 96 yX2_leavers, Cond.instanceMethod yX2_leavers, Cond.selects RX2 yX2_leavers yX2_leavers, Cond.code yX2_leavers cX2_leavers 7 (some .int), Cond.methodLink RX2 100 yX2_sumOfDreads, Cond.instanceMethod yX2_sumOfDreads, Cond.selects RX2 yX2_sumOfDreads yX2_sumOfDreads, Cond.code yX2_sumOfDreads cX2_sumOfDreads 5 (some .long), Cond.methodLink RX2 103 yJ6_bitCount_0f7a4, Cond.methodLink RL 195 yX10_clubPart, Cond.instanceMethod yX10_clubPart, Cond.selects RX10 yX10_clubPart yX10_clubPart, Cond.code yX10_clubPart cX10_clubPart 2 (some .boolean), Cond.methodLink RX10 386 yX2_sumOfDreads, Cond.methodLink RX10 389 yJ6_bitCount_0f7a4]
def wsL_law_r40 : List Cond := [Cond.methodLink RL 198 yX10_game, Cond.instanceMethod yX10_game, Cond.selects RX10 yX10_game yX10_game, Cond.code yX10_game cX10_game 5 (some .boolean), Cond.methodLink RX10 361 yX10_gameStatus, Cond.instanceMethod yX10_gameStatus, Cond.selects RX10 yX10_gameStatus yX10_gameStatus, Cond.code yX10_gameStatus cX10_gameStatus 5 (some .int), Cond.methodLink RX10 368 yX2_setGame, Cond.instanceMethod yX2_setGame, Cond.selects RX2 yX2_setGame yX2_setGame, Cond.code yX2_setGame cX2_setGame 5 none, Cond.fieldLink RX2 30 "HalfAccuser$Games" "turns" "I", Cond.fieldLink RX2 34 "HalfAccuser$City" "deeds" "I", Cond.methodLink RX2 43 yX0_isOwn, Cond.methodLink RX2 47 yX0_mayCharge, Cond.methodLink RX2 50 yX3_gainOf, Cond.methodLink RX2 56 yX3_lossOf, Cond.methodLink RX10 371 yX2_outcome, Cond.instanceMethod yX2_outcome, Cond.selects RX2 yX2_outcome yX2_outcome, Cond.code yX2_outcome cX2_outcome 1 (some .long), Cond.methodLink RX2 62 yX2_play, Cond.static yX2_play]
def wsL_law_r41 : List Cond := [Cond.code yX2_play cX2_play 9 (some .long), Cond.methodLink RX2 76 Lib.MathLoose.max_long.x, Cond.methodLink RX2 82 Lib.MathLoose.min_long.x, Cond.static Lib.MathLoose.min_long.x, Cond.code Lib.MathLoose.min_long.x Lib.MathLoose.min_long.code 4 (some .long), Cond.methodLink RL 202 yX10_moveOf, Cond.instanceMethod yX10_moveOf, Cond.selects RX10 yX10_moveOf yX10_moveOf, Cond.code yX10_moveOf cX10_moveOf 5 (some .int), Cond.methodLink RX10 374 yX2_firstMove, Cond.instanceMethod yX2_firstMove, Cond.selects RX2 yX2_firstMove yX2_firstMove, Cond.code yX2_firstMove cX2_firstMove 4 (some .int), Cond.methodLink RX2 85 yX2_outcome, Cond.methodLink RL 205 yX10_mark, Cond.instanceMethod yX10_mark, Cond.selects RX10 yX10_mark yX10_mark, Cond.code yX10_mark cX10_mark 2 (some .int), Cond.fieldLink RX10 433 "HalfAccuser" "marked" "I", Cond.methodLink RL 208 yX10_hear, Cond.instanceMethod yX10_hear, Cond.selects RX10 yX10_hear yX10_hear, Cond.code yX10_hear cX10_hear 5 (some .int), Cond.methodLink RX10 229 yX4_sow]
def wsL_law_r42 : List Cond := [Cond.instanceMethod yX4_sow, Cond.selects RX4 yX4_sow yX4_sow, Cond.code yX4_sow cX4_sow 2 none, Cond.fieldLink RX4 15 "HalfAccuser$Life" "s" "I", Cond.methodLink RX10 232 yX4_jury, Cond.instanceMethod yX4_jury, Cond.selects RX4 yX4_jury yX4_jury, Cond.code yX4_jury cX4_jury 7 (some .int), Cond.methodLink RX4 20 yX0_chanceOf, Cond.methodLink RX4 26 yX0_ruleOf, Cond.methodLink RX4 30 yX4_draw, Cond.instanceMethod yX4_draw, Cond.selects RX4 yX4_draw yX4_draw, Cond.code yX4_draw cX4_draw 2 (some .int), Cond.constant RX4 19 (65535), Cond.methodLink RX10 226 yX0_decide, Cond.instanceMethod yX0_decide, Cond.selects RX0 yX0_decide yX0_decide, Cond.code yX0_decide cX0_decide 6 (some .int), Cond.methodLink RX0 142 yX0_partOf, Cond.methodLink RX0 145 yX0_give, Cond.instanceMethod yX0_give, Cond.selects RX0 yX0_give yX0_give, Cond.code yX0_give cX0_give 3 none]
def wsL_law_r43 : List Cond := [Cond.constant RX0 128 (-99999), Cond.constant RX0 129 (99999), Cond.methodLink RX0 130 Lib.Math.min.name, Cond.methodLink RX0 135 Lib.Math.max.name, Cond.methodLink RX0 149 yX0_fillTreasury, Cond.instanceMethod yX0_fillTreasury, Cond.selects RX0 yX0_fillTreasury yX0_fillTreasury, Cond.code yX0_fillTreasury cX0_fillTreasury 2 none, Cond.methodLink RL 211 yX10_back, Cond.instanceMethod yX10_back, Cond.selects RX10 yX10_back yX10_back, Cond.code yX10_back cX10_back 3 (some .int), Cond.methodLink RL 214 yX10_charge, Cond.instanceMethod yX10_charge, Cond.selects RX10 yX10_charge yX10_charge, Cond.code yX10_charge cX10_charge 4 (some .int), Cond.fieldLink RX10 209 "HalfAccuser$City" "coins" "[I", Cond.methodLink RX10 212 yX10_at, Cond.methodLink RL 217 yX10_drop, Cond.instanceMethod yX10_drop, Cond.selects RX10 yX10_drop yX10_drop, Cond.code yX10_drop cX10_drop 4 (some .int), Cond.methodLink RX10 236 yX0_mayDrop, Cond.instanceMethod yX0_mayDrop]
def wsL_law_r44 : List Cond := [Cond.selects RX0 yX0_mayDrop yX0_mayDrop, Cond.code yX0_mayDrop cX0_mayDrop 4 (some .boolean), Cond.methodLink RX0 121 yX0_mayCharge, Cond.methodLink RX10 240 yX0_settle, Cond.instanceMethod yX0_settle, Cond.selects RX0 yX0_settle yX0_settle, Cond.code yX0_settle cX0_settle 4 none, Cond.methodLink RL 220 yX10_reopen, Cond.instanceMethod yX10_reopen, Cond.selects RX10 yX10_reopen yX10_reopen, Cond.code yX10_reopen cX10_reopen 2 (some .boolean), Cond.methodLink RX10 248 yX0_openAgain, Cond.instanceMethod yX0_openAgain, Cond.selects RX0 yX0_openAgain yX0_openAgain, Cond.code yX0_openAgain cX0_openAgain 3 none, Cond.methodLink RL 223 yX10_commit, Cond.instanceMethod yX10_commit, Cond.selects RX10 yX10_commit yX10_commit, Cond.code yX10_commit cX10_commit 4 (some .int), Cond.methodLink RX10 244 yX0_addDeed]
def wsL_law : List Cond := (wsL_law_r1 ++ (wsL_law_r2 ++ (wsL_law_r3 ++ (wsL_law_r4 ++ (wsL_law_r5 ++ (wsL_law_r6 ++ (wsL_law_r7 ++ (wsL_law_r8 ++ (wsL_law_r9 ++ (wsL_law_r10 ++ (wsL_law_r11 ++ (wsL_law_r12 ++ (wsL_law_r13 ++ (wsL_law_r14 ++ (wsL_law_r15 ++ (wsL_law_r16 ++ (wsL_law_r17 ++ (wsL_law_r18 ++ (wsL_law_r19 ++ (wsL_law_r20 ++ (wsL_law_r21 ++ (wsL_law_r22 ++ (wsL_law_r23 ++ (wsL_law_r24 ++ (wsL_law_r25 ++ (wsL_law_r26 ++ (wsL_law_r27 ++ (wsL_law_r28 ++ (wsL_law_r29 ++ (wsL_law_r30 ++ (wsL_law_r31 ++ (wsL_law_r32 ++ (wsL_law_r33 ++ (wsL_law_r34 ++ (wsL_law_r35 ++ (wsL_law_r36 ++ (wsL_law_r37 ++ (wsL_law_r38 ++ (wsL_law_r39 ++ (wsL_law_r40 ++ (wsL_law_r41 ++ (wsL_law_r42 ++ (wsL_law_r43 ++ wsL_law_r44))))))))))))))))))))))))))))))))))))))))))) ++ wsX100 ++ wsX70 ++ wsX60 ++ wsX00 ++ wsX10 ++ wsX90 ++ wsX30 ++ wsX20 ++ wsX50 ++ wsX40 ++ wsX80 ++ ([] : List Cond)
theorem inlX0 : ∀ w ∈ wsX00, w ∈ wsL_law := fun _ h => List.mem_append_left _ (List.mem_append_left _ (List.mem_append_left _ (List.mem_append_left _ (List.mem_append_left _ (List.mem_append_left _ (List.mem_append_left _ (List.mem_append_left _ (List.mem_append_right _ h))))))))
theorem inlX1 : ∀ w ∈ wsX10, w ∈ wsL_law := fun _ h => List.mem_append_left _ (List.mem_append_left _ (List.mem_append_left _ (List.mem_append_left _ (List.mem_append_left _ (List.mem_append_left _ (List.mem_append_left _ (List.mem_append_right _ h)))))))
theorem inlX2 : ∀ w ∈ wsX20, w ∈ wsL_law := fun _ h => List.mem_append_left _ (List.mem_append_left _ (List.mem_append_left _ (List.mem_append_left _ (List.mem_append_right _ h))))
theorem inlX3 : ∀ w ∈ wsX30, w ∈ wsL_law := fun _ h => List.mem_append_left _ (List.mem_append_left _ (List.mem_append_left _ (List.mem_append_left _ (List.mem_append_left _ (List.mem_append_right _ h)))))
theorem inlX4 : ∀ w ∈ wsX40, w ∈ wsL_law := fun _ h => List.mem_append_left _ (List.mem_append_left _ (List.mem_append_right _ h))
theorem inlX5 : ∀ w ∈ wsX50, w ∈ wsL_law := fun _ h => List.mem_append_left _ (List.mem_append_left _ (List.mem_append_left _ (List.mem_append_right _ h)))
theorem inlX6 : ∀ w ∈ wsX60, w ∈ wsL_law := fun _ h => List.mem_append_left _ (List.mem_append_left _ (List.mem_append_left _ (List.mem_append_left _ (List.mem_append_left _ (List.mem_append_left _ (List.mem_append_left _ (List.mem_append_left _ (List.mem_append_left _ (List.mem_append_right _ h)))))))))
theorem inlX7 : ∀ w ∈ wsX70, w ∈ wsL_law := fun _ h => List.mem_append_left _ (List.mem_append_left _ (List.mem_append_left _ (List.mem_append_left _ (List.mem_append_left _ (List.mem_append_left _ (List.mem_append_left _ (List.mem_append_left _ (List.mem_append_left _ (List.mem_append_left _ (List.mem_append_right _ h))))))))))
theorem inlX8 : ∀ w ∈ wsX80, w ∈ wsL_law := fun _ h => List.mem_append_left _ (List.mem_append_right _ h)
theorem inlX9 : ∀ w ∈ wsX90, w ∈ wsL_law := fun _ h => List.mem_append_left _ (List.mem_append_left _ (List.mem_append_left _ (List.mem_append_left _ (List.mem_append_left _ (List.mem_append_left _ (List.mem_append_right _ h))))))
theorem inlX10 : ∀ w ∈ wsX100, w ∈ wsL_law := fun _ h => List.mem_append_left _ (List.mem_append_left _ (List.mem_append_left _ (List.mem_append_left _ (List.mem_append_left _ (List.mem_append_left _ (List.mem_append_left _ (List.mem_append_left _ (List.mem_append_left _ (List.mem_append_left _ (List.mem_append_left _ (List.mem_append_right _ h)))))))))))
abbrev vwCl : List vw_C := [(RX0, TX0, 19), (RX1, TX1, 3), (RX2, TX2, 6), (RX3, TX3, 10), (RX4, TX4, 3), (RX5, TX5, 5), (RX6, TX6, 13), (RX7, TX7, 3), (RX8, TX8, 9), (RX9, TX9, 6), (RX10, TX10, 19)]
