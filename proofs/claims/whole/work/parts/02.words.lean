/-! ===== BEGIN words of one list among another's, by their places ===== -/
theorem goodIn_r {big : List Cond} (ws : List Cond) (ps : List Nat) (hp : ws = ps.filterMap (fun i => big[i]?)) (h : ws.all goodWord = true) : GoodIn big ws := by
  intro w hw
  have h1 := List.all_eq_true.mp h w hw
  rw [hp] at hw
  obtain ⟨i, -, hi⟩ := List.mem_filterMap.mp hw
  have hm : w ∈ big := by first | exact List.mem_of_getElem? hi | exact List.getElem?_mem hi
  exact ⟨hm, good_of_word h1⟩
theorem goodIn_app {big a b : List Cond} (ha : GoodIn big a) (hb : GoodIn big b) : GoodIn big (a ++ b) := fun w h => (List.mem_append.mp h).elim (ha w) (hb w)
theorem goodIn_ca {big a b : List Cond} {c : Cond} (ha : GoodIn big (c :: a)) (hb : GoodIn big b) : GoodIn big (c :: (a ++ b)) := fun w h => (List.mem_cons.mp h).elim (fun e => ha w (List.mem_cons.mpr (Or.inl e))) (fun h => (List.mem_append.mp h).elim (fun h => ha w (List.mem_cons.mpr (Or.inr h))) (hb w))
theorem goodIn_sub {big ws : List Cond} (hm : ∀ w ∈ ws, w ∈ big) (h : ws.all goodWord = true) : GoodIn big ws := fun w hw => ⟨hm w hw, good_of_word (List.all_eq_true.mp h w hw)⟩
/-! ===== END ===== -/

/-! ===== BEGIN printed: names, fields, word lists, decode rows ===== -/
def RX0 : String := "BurstSkins$Journey"
def TX0 : u_T := fun k => match k with
  | 0 => ("BurstSkins$Journey", "at", "LBurstSkins$Moment;", true)
  | 1 => ("BurstSkins$Journey", "when", "I", false)
  | 2 => ("BurstSkins$Journey", "greatest", "I", false)
  | 3 => ("BurstSkins$Journey", "greatestAt", "I", false)
  | _ => ("BurstSkins$Journey", "hiss", "I", false)
def tyX0 : Nat → FieldType := fun k => match k with
  | 0 => .object "BurstSkins$Moment"
  | 1 => .int
  | 2 => .int
  | 3 => .int
  | _ => .int
abbrev wsX00 : List Cond := u_ws RX0 TX0 5
theorem nmX0 : ∀ a, a < 5 → ∀ b, b < 5 → a ≠ b → (TX0 a).2.1 ≠ (TX0 b).2.1 := by decide +kernel
theorem tyX0_ok : ∀ k, k < 5 → parseFieldDescriptor (TX0 k).2.2.1 = some (tyX0 k) := by decide +kernel
abbrev cX0_init : ByteArray := prog_2_method_1_code
def yX0_init : MethodName := ⟨RX0, "<init>", "()V"⟩
abbrev cX0_begin : ByteArray := prog_2_method_2_code
def yX0_begin : MethodName := ⟨RX0, "begin", "(LBurstSkins$Recipe;I)V"⟩
abbrev cX0_pass : ByteArray := prog_2_method_3_code
def yX0_pass : MethodName := ⟨RX0, "pass", "(LBurstSkins$Recipe;II)V"⟩
abbrev cX0_follow : ByteArray := prog_2_method_4_code
def yX0_follow : MethodName := ⟨RX0, "follow", "(LBurstSkins$Recipe;IZ)V"⟩
abbrev cX0_turnEach : ByteArray := prog_2_method_5_code
def yX0_turnEach : MethodName := ⟨RX0, "turnEach", "(LBurstSkins$Recipe;III)V"⟩
abbrev cX0_hissAhead : ByteArray := prog_2_method_6_code
def yX0_hissAhead : MethodName := ⟨RX0, "hissAhead", "()I"⟩
def RX1 : String := "BurstSkins$Moment"
def TX1 : u_T := fun k => match k with
  | 0 => ("BurstSkins$Moment", "down", "I", false)
  | 1 => ("BurstSkins$Moment", "degrees", "[I", true)
  | 2 => ("BurstSkins$Moment", "brown", "[I", true)
  | 3 => ("BurstSkins$Moment", "core", "I", false)
  | 4 => ("BurstSkins$Moment", "water", "I", false)
  | 5 => ("BurstSkins$Moment", "pricked", "I", false)
  | 6 => ("BurstSkins$Moment", "thinSpots", "I", false)
  | 7 => ("BurstSkins$Moment", "seconds", "I", false)
  | 8 => ("BurstSkins$Moment", "gone", "I", false)
  | 9 => ("BurstSkins$Moment", "splitAt", "I", false)
  | _ => ("BurstSkins$Moment", "steam", "I", false)
def tyX1 : Nat → FieldType := fun k => match k with
  | 0 => .int
  | 1 => .array .int
  | 2 => .array .int
  | 3 => .int
  | 4 => .int
  | 5 => .int
  | 6 => .int
  | 7 => .int
  | 8 => .int
  | 9 => .int
  | _ => .int
abbrev wsX10 : List Cond := u_ws RX1 TX1 11
theorem nmX1 : ∀ a, a < 11 → ∀ b, b < 11 → a ≠ b → (TX1 a).2.1 ≠ (TX1 b).2.1 := by decide +kernel
theorem tyX1_ok : ∀ k, k < 11 → parseFieldDescriptor (TX1 k).2.2.1 = some (tyX1 k) := by decide +kernel
abbrev cX1_init : ByteArray := prog_3_method_1_code
def yX1_init : MethodName := ⟨RX1, "<init>", "()V"⟩
abbrev cX1_begin : ByteArray := prog_3_method_2_code
def yX1_begin : MethodName := ⟨RX1, "begin", "(LBurstSkins$Recipe;)V"⟩
abbrev cX1_take : ByteArray := prog_3_method_3_code
def yX1_take : MethodName := ⟨RX1, "take", "(LBurstSkins$Moment;)V"⟩
abbrev cX1_turnBy : ByteArray := prog_3_method_4_code
def yX1_turnBy : MethodName := ⟨RX1, "turnBy", "(I)V"⟩
abbrev cX1_prickBy : ByteArray := prog_3_method_5_code
def yX1_prickBy : MethodName := ⟨RX1, "prickBy", "(I)V"⟩
abbrev cX1_pass : ByteArray := prog_3_method_6_code
def yX1_pass : MethodName := ⟨RX1, "pass", "(LBurstSkins$Recipe;II)I"⟩
abbrev cX1_fireFaces : ByteArray := prog_3_method_7_code
def yX1_fireFaces : MethodName := ⟨RX1, "fireFaces", "(I)V"⟩
abbrev cX1_simmerFaces : ByteArray := prog_3_method_8_code
def yX1_simmerFaces : MethodName := ⟨RX1, "simmerFaces", "(I)V"⟩
abbrev cX1_warmCore : ByteArray := prog_3_method_9_code
def yX1_warmCore : MethodName := ⟨RX1, "warmCore", "(LBurstSkins$Recipe;)V"⟩
abbrev cX1_boil : ByteArray := prog_3_method_10_code
def yX1_boil : MethodName := ⟨RX1, "boil", "()V"⟩
abbrev cX1_browner : ByteArray := prog_3_method_11_code
def yX1_browner : MethodName := ⟨RX1, "browner", "()V"⟩
abbrev cX1_goIfPulled : ByteArray := prog_3_method_12_code
def yX1_goIfPulled : MethodName := ⟨RX1, "goIfPulled", "(LBurstSkins$Recipe;I)V"⟩
abbrev cX1_pressIn : ByteArray := prog_3_method_13_code
def yX1_pressIn : MethodName := ⟨RX1, "pressIn", "(LBurstSkins$Recipe;)I"⟩
abbrev cX1_pullRound : ByteArray := prog_3_method_14_code
def yX1_pullRound : MethodName := ⟨RX1, "pullRound", "(ILBurstSkins$Recipe;I)I"⟩
abbrev cX1_pullAlong : ByteArray := prog_3_method_15_code
def yX1_pullAlong : MethodName := ⟨RX1, "pullAlong", "(LBurstSkins$Recipe;I)I"⟩
abbrev cX1_strengthAt : ByteArray := prog_3_method_16_code
def yX1_strengthAt : MethodName := ⟨RX1, "strengthAt", "(ILBurstSkins$Recipe;)I"⟩
abbrev cX1_leastBrown : ByteArray := prog_3_method_17_code
def yX1_leastBrown : MethodName := ⟨RX1, "leastBrown", "()I"⟩
abbrev cX1_greatestBrown : ByteArray := prog_3_method_18_code
def yX1_greatestBrown : MethodName := ⟨RX1, "greatestBrown", "()I"⟩
def RX2 : String := "BurstSkins$Reader"
def TX2 : u_T := fun k => match k with
  | 0 => ("BurstSkins$Reader", "text", "[I", true)
  | 1 => ("BurstSkins$Reader", "length", "I", false)
  | 2 => ("BurstSkins$Reader", "numbers", "[I", true)
  | 3 => ("BurstSkins$Reader", "token", "I", false)
  | 4 => ("BurstSkins$Reader", "place", "I", false)
  | 5 => ("BurstSkins$Reader", "next", "I", false)
  | 6 => ("BurstSkins$Reader", "value", "I", false)
  | 7 => ("BurstSkins$Reader", "skinTold", "Z", false)
  | _ => ("BurstSkins$Reader", "bentTold", "Z", false)
def tyX2 : Nat → FieldType := fun k => match k with
  | 0 => .array .int
  | 1 => .int
  | 2 => .array .int
  | 3 => .int
  | 4 => .int
  | 5 => .int
  | 6 => .int
  | 7 => .boolean
  | _ => .boolean
abbrev wsX20 : List Cond := u_ws RX2 TX2 9
theorem nmX2 : ∀ a, a < 9 → ∀ b, b < 9 → a ≠ b → (TX2 a).2.1 ≠ (TX2 b).2.1 := by decide +kernel
theorem tyX2_ok : ∀ k, k < 9 → parseFieldDescriptor (TX2 k).2.2.1 = some (tyX2 k) := by decide +kernel
abbrev cX2_init : ByteArray := prog_4_method_1_code
def yX2_init : MethodName := ⟨RX2, "<init>", "()V"⟩
abbrev cX2_append : ByteArray := prog_4_method_2_code
def yX2_append : MethodName := ⟨RX2, "append", "(I)V"⟩
abbrev cX2_readAll : ByteArray := prog_4_method_3_code
def yX2_readAll : MethodName := ⟨RX2, "readAll", "(LBurstSkins$Recipe;)I"⟩
abbrev cX2_readItem : ByteArray := prog_4_method_4_code
def yX2_readItem : MethodName := ⟨RX2, "readItem", "(LBurstSkins$Recipe;)Z"⟩
abbrev cX2_mayStand : ByteArray := prog_4_method_5_code
def yX2_mayStand : MethodName := ⟨RX2, "mayStand", "(ILBurstSkins$Recipe;)Z"⟩
abbrev cX2_tell : ByteArray := prog_4_method_6_code
def yX2_tell : MethodName := ⟨RX2, "tell", "(IILBurstSkins$Recipe;)V"⟩
abbrev cX2_byteAt : ByteArray := prog_4_method_7_code
def yX2_byteAt : MethodName := ⟨RX2, "byteAt", "(I)I"⟩
abbrev cX2_isLetter : ByteArray := prog_4_method_8_code
def yX2_isLetter : MethodName := ⟨RX2, "isLetter", "(I)Z"⟩
abbrev cX2_isDigit : ByteArray := prog_4_method_9_code
def yX2_isDigit : MethodName := ⟨RX2, "isDigit", "(I)Z"⟩
abbrev cX2_readToken : ByteArray := prog_4_method_10_code
def yX2_readToken : MethodName := ⟨RX2, "readToken", "()V"⟩
abbrev cX2_readNumber : ByteArray := prog_4_method_11_code
def yX2_readNumber : MethodName := ⟨RX2, "readNumber", "()V"⟩
abbrev cX2_readWord : ByteArray := prog_4_method_12_code
def yX2_readWord : MethodName := ⟨RX2, "readWord", "()V"⟩
abbrev cX2_nameOf : ByteArray := prog_4_method_13_code
def yX2_nameOf : MethodName := ⟨RX2, "nameOf", "(I)Ljava/lang/String;"⟩
abbrev cX2_isWord : ByteArray := prog_4_method_14_code
def yX2_isWord : MethodName := ⟨RX2, "isWord", "(Ljava/lang/String;)Z"⟩
def RX3 : String := "BurstSkins$Recipe"
def TX3 : u_T := fun k => match k with
  | 0 => ("BurstSkins$Recipe", "radius", "I", false)
  | 1 => ("BurstSkins$Recipe", "skin", "I", false)
  | 2 => ("BurstSkins$Recipe", "filling", "I", false)
  | 3 => ("BurstSkins$Recipe", "water", "I", false)
  | 4 => ("BurstSkins$Recipe", "ends", "I", false)
  | 5 => ("BurstSkins$Recipe", "thin", "I", false)
  | 6 => ("BurstSkins$Recipe", "chance", "I", false)
  | 7 => ("BurstSkins$Recipe", "bentFace", "I", false)
  | 8 => ("BurstSkins$Recipe", "bentBy", "I", false)
  | 9 => ("BurstSkins$Recipe", "doings", "I", false)
  | 10 => ("BurstSkins$Recipe", "kinds", "[I", true)
  | 11 => ("BurstSkins$Recipe", "firsts", "[I", true)
  | _ => ("BurstSkins$Recipe", "seconds", "[I", true)
def tyX3 : Nat → FieldType := fun k => match k with
  | 0 => .int
  | 1 => .int
  | 2 => .int
  | 3 => .int
  | 4 => .int
  | 5 => .int
  | 6 => .int
  | 7 => .int
  | 8 => .int
  | 9 => .int
  | 10 => .array .int
  | 11 => .array .int
  | _ => .array .int
abbrev wsX30 : List Cond := u_ws RX3 TX3 13
theorem nmX3 : ∀ a, a < 13 → ∀ b, b < 13 → a ≠ b → (TX3 a).2.1 ≠ (TX3 b).2.1 := by decide +kernel
theorem tyX3_ok : ∀ k, k < 13 → parseFieldDescriptor (TX3 k).2.2.1 = some (tyX3 k) := by decide +kernel
abbrev cX3_init : ByteArray := prog_5_method_1_code
def yX3_init : MethodName := ⟨RX3, "<init>", "()V"⟩
abbrev cX3_setAtFirst : ByteArray := prog_5_method_2_code
def yX3_setAtFirst : MethodName := ⟨RX3, "setAtFirst", "()V"⟩
abbrev cX3_take : ByteArray := prog_5_method_3_code
def yX3_take : MethodName := ⟨RX3, "take", "(LBurstSkins$Recipe;)V"⟩
abbrev cX3_isFull : ByteArray := prog_5_method_4_code
def yX3_isFull : MethodName := ⟨RX3, "isFull", "()Z"⟩
abbrev cX3_add : ByteArray := prog_5_method_5_code
def yX3_add : MethodName := ⟨RX3, "add", "(III)V"⟩
abbrev cX3_planSeconds : ByteArray := prog_5_method_6_code
def yX3_planSeconds : MethodName := ⟨RX3, "planSeconds", "()I"⟩
abbrev cX3_heatFires : ByteArray := prog_5_method_7_code
def yX3_heatFires : MethodName := ⟨RX3, "heatFires", "(I)V"⟩
def RX4 : String := "BurstSkins"
def TX4 : u_T := fun k => match k with
  | 0 => ("BurstSkins", "recipe", "LBurstSkins$Recipe;", true)
  | 1 => ("BurstSkins", "draft", "LBurstSkins$Recipe;", true)
  | 2 => ("BurstSkins", "changed", "LBurstSkins$Recipe;", true)
  | 3 => ("BurstSkins", "reader", "LBurstSkins$Reader;", true)
  | 4 => ("BurstSkins", "moment", "LBurstSkins$Moment;", true)
  | 5 => ("BurstSkins", "journey", "LBurstSkins$Journey;", true)
  | 6 => ("BurstSkins", "images", "[LBurstSkins$Moment;", true)
  | 7 => ("BurstSkins", "kept", "[Z", true)
  | 8 => ("BurstSkins", "heats", "[I", true)
  | 9 => ("BurstSkins", "salts", "[I", true)
  | 10 => ("BurstSkins", "crumbsOf", "[I", true)
  | 11 => ("BurstSkins", "tests", "I", false)
  | 12 => ("BurstSkins", "traced", "J", false)
  | _ => ("BurstSkins", "dryWeight", "I", false)
def tyX4 : Nat → FieldType := fun k => match k with
  | 0 => .object "BurstSkins$Recipe"
  | 1 => .object "BurstSkins$Recipe"
  | 2 => .object "BurstSkins$Recipe"
  | 3 => .object "BurstSkins$Reader"
  | 4 => .object "BurstSkins$Moment"
  | 5 => .object "BurstSkins$Journey"
  | 6 => .array (.object "BurstSkins$Moment")
  | 7 => .array .boolean
  | 8 => .array .int
  | 9 => .array .int
  | 10 => .array .int
  | 11 => .int
  | 12 => .long
  | _ => .int
abbrev wsX40 : List Cond := u_ws RX4 TX4 14
theorem nmX4 : ∀ a, a < 14 → ∀ b, b < 14 → a ≠ b → (TX4 a).2.1 ≠ (TX4 b).2.1 := by decide +kernel
theorem tyX4_ok : ∀ k, k < 14 → parseFieldDescriptor (TX4 k).2.2.1 = some (tyX4 k) := by decide +kernel
abbrev cX4_init : ByteArray := prog_1_method_1_code
def yX4_init : MethodName := ⟨RX4, "<init>", "()V"⟩
abbrev cX4_type : ByteArray := prog_1_method_2_code
def yX4_type : MethodName := ⟨RX4, "type", "(JI)I"⟩
abbrev cX4_clear : ByteArray := prog_1_method_3_code
def yX4_clear : MethodName := ⟨RX4, "clear", "()I"⟩
abbrev cX4_sausage : ByteArray := prog_1_method_4_code
def yX4_sausage : MethodName := ⟨RX4, "sausage", "()I"⟩
abbrev cX4_told : ByteArray := prog_1_method_5_code
def yX4_told : MethodName := ⟨RX4, "told", "(I)I"⟩
abbrev cX4_doing : ByteArray := prog_1_method_6_code
def yX4_doing : MethodName := ⟨RX4, "doing", "(II)I"⟩
abbrev cX4_fire : ByteArray := prog_1_method_7_code
def yX4_fire : MethodName := ⟨RX4, "fire", "(II)I"⟩
abbrev cX4_simmer : ByteArray := prog_1_method_8_code
def yX4_simmer : MethodName := ⟨RX4, "simmer", "(II)I"⟩
abbrev cX4_turn : ByteArray := prog_1_method_9_code
def yX4_turn : MethodName := ⟨RX4, "turn", "(I)I"⟩
abbrev cX4_prick : ByteArray := prog_1_method_10_code
def yX4_prick : MethodName := ⟨RX4, "prick", "(I)I"⟩
abbrev cX4_spots : ByteArray := prog_1_method_11_code
def yX4_spots : MethodName := ⟨RX4, "spots", "(I)I"⟩
abbrev cX4_face : ByteArray := prog_1_method_12_code
def yX4_face : MethodName := ⟨RX4, "face", "(II)I"⟩
abbrev cX4_now : ByteArray := prog_1_method_13_code
def yX4_now : MethodName := ⟨RX4, "now", "(I)I"⟩
abbrev cX4_anew : ByteArray := prog_1_method_14_code
def yX4_anew : MethodName := ⟨RX4, "anew", "()I"⟩
abbrev cX4_run : ByteArray := prog_1_method_15_code
def yX4_run : MethodName := ⟨RX4, "run", "(II)I"⟩
abbrev cX4_odds : ByteArray := prog_1_method_16_code
def yX4_odds : MethodName := ⟨RX4, "odds", "()I"⟩
abbrev cX4_pricks : ByteArray := prog_1_method_17_code
def yX4_pricks : MethodName := ⟨RX4, "pricks", "(I)I"⟩
abbrev cX4_simmered : ByteArray := prog_1_method_18_code
def yX4_simmered : MethodName := ⟨RX4, "simmered", "(I)I"⟩
abbrev cX4_planned : ByteArray := prog_1_method_19_code
def yX4_planned : MethodName := ⟨RX4, "planned", "(III)I"⟩
abbrev cX4_heat : ByteArray := prog_1_method_20_code
def yX4_heat : MethodName := ⟨RX4, "heat", "(II)I"⟩
abbrev cX4_even : ByteArray := prog_1_method_21_code
def yX4_even : MethodName := ⟨RX4, "even", "(II)I"⟩
abbrev cX4_began : ByteArray := prog_1_method_22_code
def yX4_began : MethodName := ⟨RX4, "began", "(III)I"⟩
abbrev cX4_why : ByteArray := prog_1_method_23_code
def yX4_why : MethodName := ⟨RX4, "why", "(IIII)I"⟩
abbrev cX4_dried : ByteArray := prog_1_method_24_code
def yX4_dried : MethodName := ⟨RX4, "dried", "(IIII)I"⟩
abbrev cX4_days : ByteArray := prog_1_method_25_code
def yX4_days : MethodName := ⟨RX4, "days", "(IIII)I"⟩
abbrev cX4_test : ByteArray := prog_1_method_26_code
def yX4_test : MethodName := ⟨RX4, "test", "(II)I"⟩
abbrev cX4_holds : ByteArray := prog_1_method_27_code
def yX4_holds : MethodName := ⟨RX4, "holds", "(I)I"⟩
abbrev cX4_tube : ByteArray := prog_1_method_28_code
def yX4_tube : MethodName := ⟨RX4, "tube", "(III)I"⟩
abbrev cX4_mark : ByteArray := prog_1_method_29_code
def yX4_mark : MethodName := ⟨RX4, "mark", "(II)I"⟩
abbrev cX4_keep : ByteArray := prog_1_method_30_code
def yX4_keep : MethodName := ⟨RX4, "keep", "(I)I"⟩
abbrev cX4_back : ByteArray := prog_1_method_31_code
def yX4_back : MethodName := ⟨RX4, "back", "(I)I"⟩
abbrev cX4_count : ByteArray := prog_1_method_32_code
def yX4_count : MethodName := ⟨RX4, "count", "(I)I"⟩
abbrev cX4_trace : ByteArray := prog_1_method_33_code
def yX4_trace : MethodName := ⟨RX4, "trace", "()J"⟩
abbrev cX4_outside : ByteArray := prog_1_method_34_code
def yX4_outside : MethodName := ⟨RX4, "outside", "(III)Z"⟩
abbrev cX4_passSeconds : ByteArray := prog_1_method_35_code
def yX4_passSeconds : MethodName := ⟨RX4, "passSeconds", "(III)I"⟩
abbrev cX4_chanceOf : ByteArray := prog_1_method_36_code
def yX4_chanceOf : MethodName := ⟨RX4, "chanceOf", "(I)I"⟩
abbrev cX4_staysWhole : ByteArray := prog_1_method_37_code
def yX4_staysWhole : MethodName := ⟨RX4, "staysWhole", "()Z"⟩
abbrev cX4_leastHeat : ByteArray := prog_1_method_38_code
def yX4_leastHeat : MethodName := ⟨RX4, "leastHeat", "(II)I"⟩
abbrev cX4_noBeginning : ByteArray := prog_1_method_39_code
def yX4_noBeginning : MethodName := ⟨RX4, "noBeginning", "(III)Z"⟩
abbrev cX4_timesOf : ByteArray := prog_1_method_40_code
def yX4_timesOf : MethodName := ⟨RX4, "timesOf", "(III)I"⟩
abbrev cX4_changeBy : ByteArray := prog_1_method_41_code
def yX4_changeBy : MethodName := ⟨RX4, "changeBy", "(II)V"⟩
abbrev cX4_commonDivisor : ByteArray := prog_1_method_42_code
def yX4_commonDivisor : MethodName := ⟨RX4, "commonDivisor", "(II)I"⟩
abbrev cX4_noDrying : ByteArray := prog_1_method_43_code
def yX4_noDrying : MethodName := ⟨RX4, "noDrying", "(III)Z"⟩
abbrev cX4_dryUntil : ByteArray := prog_1_method_44_code
def yX4_dryUntil : MethodName := ⟨RX4, "dryUntil", "(IIIII)I"⟩
abbrev cX4_markEnd : ByteArray := prog_1_method_45_code
def yX4_markEnd : MethodName := ⟨RX4, "markEnd", "(I)I"⟩
abbrev cX4_markWhole : ByteArray := prog_1_method_46_code
def yX4_markWhole : MethodName := ⟨RX4, "markWhole", "(I)I"⟩
abbrev cX4_markSplit : ByteArray := prog_1_method_47_code
def yX4_markSplit : MethodName := ⟨RX4, "markSplit", "(I)I"⟩
abbrev cX4_markCurled : ByteArray := prog_1_method_48_code
def yX4_markCurled : MethodName := ⟨RX4, "markCurled", "(I)I"⟩
abbrev cX4_markPale : ByteArray := prog_1_method_49_code
def yX4_markPale : MethodName := ⟨RX4, "markPale", "(I)I"⟩
abbrev cX4_markDried : ByteArray := prog_1_method_50_code
def yX4_markDried : MethodName := ⟨RX4, "markDried", "(I)I"⟩
def RX5 : String := "BurstSkinsModel"
def TX5 : u_T := fun k => match k with
  | 0 => ("BurstSkinsModel", "length", "I", false)
  | 1 => ("BurstSkinsModel", "text", "[B", true)
  | 2 => ("BurstSkinsModel", "at", "I", false)
  | 3 => ("BurstSkinsModel", "begin", "I", false)
  | 4 => ("BurstSkinsModel", "told", "I", false)
  | 5 => ("BurstSkinsModel", "is", "[I", true)
  | 6 => ("BurstSkinsModel", "doings", "[I", true)
  | 7 => ("BurstSkinsModel", "doing", "[I", true)
  | 8 => ("BurstSkinsModel", "items", "I", false)
  | 9 => ("BurstSkinsModel", "row", "[I", true)
  | 10 => ("BurstSkinsModel", "isKept", "[Z", true)
  | 11 => ("BurstSkinsModel", "when", "I", false)
  | 12 => ("BurstSkinsModel", "most", "I", false)
  | 13 => ("BurstSkinsModel", "mostAt", "I", false)
  | 14 => ("BurstSkinsModel", "hiss", "I", false)
  | 15 => ("BurstSkinsModel", "best", "[I", true)
  | 16 => ("BurstSkinsModel", "heats", "[I", true)
  | 17 => ("BurstSkinsModel", "orders", "[I", true)
  | 18 => ("BurstSkinsModel", "has", "[I", true)
  | 19 => ("BurstSkinsModel", "tests", "I", false)
  | 20 => ("BurstSkinsModel", "salt", "[I", true)
  | 21 => ("BurstSkinsModel", "crumbs", "[I", true)
  | 22 => ("BurstSkinsModel", "traced", "J", false)
  | 23 => ("BurstSkinsModel", "hasSkin", "Z", false)
  | _ => ("BurstSkinsModel", "hasBend", "Z", false)
def tyX5 : Nat → FieldType := fun k => match k with
  | 0 => .int
  | 1 => .array .byte
  | 2 => .int
  | 3 => .int
  | 4 => .int
  | 5 => .array .int
  | 6 => .array .int
  | 7 => .array .int
  | 8 => .int
  | 9 => .array .int
  | 10 => .array .boolean
  | 11 => .int
  | 12 => .int
  | 13 => .int
  | 14 => .int
  | 15 => .array .int
  | 16 => .array .int
  | 17 => .array .int
  | 18 => .array .int
  | 19 => .int
  | 20 => .array .int
  | 21 => .array .int
  | 22 => .long
  | 23 => .boolean
  | _ => .boolean
abbrev wsX50 : List Cond := u_ws RX5 TX5 25
theorem nmX5 : ∀ a, a < 25 → ∀ b, b < 25 → a ≠ b → (TX5 a).2.1 ≠ (TX5 b).2.1 := by decide +kernel
theorem tyX5_ok : ∀ k, k < 25 → parseFieldDescriptor (TX5 k).2.2.1 = some (tyX5 k) := by decide +kernel
abbrev cX5_init : ByteArray := prog_7_method_1_code
def yX5_init : MethodName := ⟨RX5, "<init>", "()V"⟩
abbrev cX5_in : ByteArray := prog_7_method_2_code
def yX5_in : MethodName := ⟨RX5, "in", "(JJJ)Z"⟩
abbrev cX5_type : ByteArray := prog_7_method_3_code
def yX5_type : MethodName := ⟨RX5, "type", "(JI)I"⟩
abbrev cX5_clear : ByteArray := prog_7_method_4_code
def yX5_clear : MethodName := ⟨RX5, "clear", "()I"⟩
abbrev cX5_blanks : ByteArray := prog_7_method_5_code
def yX5_blanks : MethodName := ⟨RX5, "blanks", "()V"⟩
abbrev cX5_number : ByteArray := prog_7_method_6_code
def yX5_number : MethodName := ⟨RX5, "number", "(II)Z"⟩
abbrev cX5_ends : ByteArray := prog_7_method_7_code
def yX5_ends : MethodName := ⟨RX5, "ends", "()Z"⟩
abbrev cX5_word : ByteArray := prog_7_method_8_code
def yX5_word : MethodName := ⟨RX5, "word", "()I"⟩
abbrev cX5_highest : ByteArray := prog_7_method_9_code
def yX5_highest : MethodName := ⟨RX5, "highest", "(I)I"⟩
abbrev cX5_isSkin : ByteArray := prog_7_method_10_code
def yX5_isSkin : MethodName := ⟨RX5, "isSkin", "()Z"⟩
abbrev cX5_isBend : ByteArray := prog_7_method_11_code
def yX5_isBend : MethodName := ⟨RX5, "isBend", "()Z"⟩
abbrev cX5_isDoing : ByteArray := prog_7_method_12_code
def yX5_isDoing : MethodName := ⟨RX5, "isDoing", "(I)Z"⟩
abbrev cX5_isItem : ByteArray := prog_7_method_13_code
def yX5_isItem : MethodName := ⟨RX5, "isItem", "()Z"⟩
abbrev cX5_reads : ByteArray := prog_7_method_14_code
def yX5_reads : MethodName := ⟨RX5, "reads", "()I"⟩
abbrev cX5_sausage : ByteArray := prog_7_method_15_code
def yX5_sausage : MethodName := ⟨RX5, "sausage", "()I"⟩
abbrev cX5_allSeconds : ByteArray := prog_7_method_16_code
def yX5_allSeconds : MethodName := ⟨RX5, "allSeconds", "()I"⟩
abbrev cX5_told : ByteArray := prog_7_method_17_code
def yX5_told : MethodName := ⟨RX5, "told", "(I)I"⟩
abbrev cX5_doing : ByteArray := prog_7_method_18_code
def yX5_doing : MethodName := ⟨RX5, "doing", "(II)I"⟩
abbrev cX5_begins : ByteArray := prog_7_method_19_code
def yX5_begins : MethodName := ⟨RX5, "begins", "(I)V"⟩
abbrev cX5_press : ByteArray := prog_7_method_20_code
def yX5_press : MethodName := ⟨RX5, "press", "(I)I"⟩
abbrev cX5_holdsAt : ByteArray := prog_7_method_21_code
def yX5_holdsAt : MethodName := ⟨RX5, "holdsAt", "(II)I"⟩
abbrev cX5_pulls : ByteArray := prog_7_method_22_code
def yX5_pulls : MethodName := ⟨RX5, "pulls", "(II)I"⟩
abbrev cX5_second : ByteArray := prog_7_method_23_code
def yX5_second : MethodName := ⟨RX5, "second", "(IIZ)V"⟩
abbrev cX5_fire : ByteArray := prog_7_method_24_code
def yX5_fire : MethodName := ⟨RX5, "fire", "(II)I"⟩
abbrev cX5_simmer : ByteArray := prog_7_method_25_code
def yX5_simmer : MethodName := ⟨RX5, "simmer", "(II)I"⟩
abbrev cX5_turns : ByteArray := prog_7_method_26_code
def yX5_turns : MethodName := ⟨RX5, "turns", "(II)V"⟩
abbrev cX5_turn : ByteArray := prog_7_method_27_code
def yX5_turn : MethodName := ⟨RX5, "turn", "(I)I"⟩
abbrev cX5_pricked : ByteArray := prog_7_method_28_code
def yX5_pricked : MethodName := ⟨RX5, "pricked", "(II)V"⟩
abbrev cX5_prick : ByteArray := prog_7_method_29_code
def yX5_prick : MethodName := ⟨RX5, "prick", "(I)I"⟩
abbrev cX5_spots : ByteArray := prog_7_method_30_code
def yX5_spots : MethodName := ⟨RX5, "spots", "(I)I"⟩
abbrev cX5_face : ByteArray := prog_7_method_31_code
def yX5_face : MethodName := ⟨RX5, "face", "(II)I"⟩
abbrev cX5_now : ByteArray := prog_7_method_32_code
def yX5_now : MethodName := ⟨RX5, "now", "(I)I"⟩
abbrev cX5_anew : ByteArray := prog_7_method_33_code
def yX5_anew : MethodName := ⟨RX5, "anew", "()I"⟩
abbrev cX5_tried : ByteArray := prog_7_method_34_code
def yX5_tried : MethodName := ⟨RX5, "tried", "(IZ)V"⟩
abbrev cX5_fresh : ByteArray := prog_7_method_35_code
def yX5_fresh : MethodName := ⟨RX5, "fresh", "(I)V"⟩
abbrev cX5_plan : ByteArray := prog_7_method_36_code
def yX5_plan : MethodName := ⟨RX5, "plan", "(I)V"⟩
abbrev cX5_brown : ByteArray := prog_7_method_37_code
def yX5_brown : MethodName := ⟨RX5, "brown", "(Z)I"⟩
abbrev cX5_run : ByteArray := prog_7_method_38_code
def yX5_run : MethodName := ⟨RX5, "run", "(II)I"⟩
abbrev cX5_odds : ByteArray := prog_7_method_39_code
def yX5_odds : MethodName := ⟨RX5, "odds", "()I"⟩
abbrev cX5_holdsAll : ByteArray := prog_7_method_40_code
def yX5_holdsAll : MethodName := ⟨RX5, "holdsAll", "(II)Z"⟩
abbrev cX5_pricks : ByteArray := prog_7_method_41_code
def yX5_pricks : MethodName := ⟨RX5, "pricks", "(I)I"⟩
abbrev cX5_simmered : ByteArray := prog_7_method_42_code
def yX5_simmered : MethodName := ⟨RX5, "simmered", "(I)I"⟩
abbrev cX5_planned : ByteArray := prog_7_method_43_code
def yX5_planned : MethodName := ⟨RX5, "planned", "(III)I"⟩
abbrev cX5_heat : ByteArray := prog_7_method_44_code
def yX5_heat : MethodName := ⟨RX5, "heat", "(II)I"⟩
abbrev cX5_even : ByteArray := prog_7_method_45_code
def yX5_even : MethodName := ⟨RX5, "even", "(II)I"⟩
abbrev cX5_goesSo : ByteArray := prog_7_method_46_code
def yX5_goesSo : MethodName := ⟨RX5, "goesSo", "(IIII)Z"⟩
abbrev cX5_begun : ByteArray := prog_7_method_47_code
def yX5_begun : MethodName := ⟨RX5, "begun", "(III)I"⟩
abbrev cX5_isCause : ByteArray := prog_7_method_48_code
def yX5_isCause : MethodName := ⟨RX5, "isCause", "(III)Z"⟩
abbrev cX5_began : ByteArray := prog_7_method_49_code
def yX5_began : MethodName := ⟨RX5, "began", "(III)I"⟩
abbrev cX5_why : ByteArray := prog_7_method_50_code
def yX5_why : MethodName := ⟨RX5, "why", "(IIII)I"⟩
abbrev cX5_isDry : ByteArray := prog_7_method_51_code
def yX5_isDry : MethodName := ⟨RX5, "isDry", "(III)Z"⟩
abbrev cX5_dried : ByteArray := prog_7_method_52_code
def yX5_dried : MethodName := ⟨RX5, "dried", "(IIII)I"⟩
abbrev cX5_days : ByteArray := prog_7_method_53_code
def yX5_days : MethodName := ⟨RX5, "days", "(IIII)I"⟩
abbrev cX5_test : ByteArray := prog_7_method_54_code
def yX5_test : MethodName := ⟨RX5, "test", "(II)I"⟩
abbrev cX5_holds : ByteArray := prog_7_method_55_code
def yX5_holds : MethodName := ⟨RX5, "holds", "(I)I"⟩
abbrev cX5_tube : ByteArray := prog_7_method_56_code
def yX5_tube : MethodName := ⟨RX5, "tube", "(III)I"⟩
abbrev cX5_mark : ByteArray := prog_7_method_57_code
def yX5_mark : MethodName := ⟨RX5, "mark", "(II)I"⟩
abbrev cX5_isImage : ByteArray := prog_7_method_58_code
def yX5_isImage : MethodName := ⟨RX5, "isImage", "(I)Z"⟩
abbrev cX5_keep : ByteArray := prog_7_method_59_code
def yX5_keep : MethodName := ⟨RX5, "keep", "(I)I"⟩
abbrev cX5_back : ByteArray := prog_7_method_60_code
def yX5_back : MethodName := ⟨RX5, "back", "(I)I"⟩
abbrev cX5_copies : ByteArray := prog_7_method_61_code
def yX5_copies : MethodName := ⟨RX5, "copies", "(II)V"⟩
abbrev cX5_count : ByteArray := prog_7_method_62_code
def yX5_count : MethodName := ⟨RX5, "count", "(I)I"⟩
abbrev cX5_trace : ByteArray := prog_7_method_63_code
def yX5_trace : MethodName := ⟨RX5, "trace", "()J"⟩
def RJ9 : String := "java/lang/Math"
def TJ9 : u_T := fun k => match k with
  | _ => ("", "", "", false)
def tyJ9 : Nat → FieldType := fun k => match k with
  | _ => .int
abbrev wsJ90 : List Cond := u_ws RJ9 TJ9 0
theorem nmJ9 : ∀ a, a < 0 → ∀ b, b < 0 → a ≠ b → (TJ9 a).2.1 ≠ (TJ9 b).2.1 := by decide +kernel
theorem tyJ9_ok : ∀ k, k < 0 → parseFieldDescriptor (TJ9 k).2.2.1 = some (tyJ9 k) := by decide +kernel
abbrev cJ9_max_7cf53 : ByteArray := prog_8_method_65_code
def yJ9_max_7cf53 : MethodName := ⟨RJ9, "max", "(II)I"⟩
abbrev cJ9_min_7cf53 : ByteArray := prog_8_method_69_code
def yJ9_min_7cf53 : MethodName := ⟨RJ9, "min", "(II)I"⟩
def RJ0 : String := "java/lang/String"
def TJ0 : u_T := fun k => match k with
  | _ => ("", "", "", false)
def tyJ0 : Nat → FieldType := fun k => match k with
  | _ => .int
abbrev wsJ00 : List Cond := u_ws RJ0 TJ0 0
theorem nmJ0 : ∀ a, a < 0 → ∀ b, b < 0 → a ≠ b → (TJ0 a).2.1 ≠ (TJ0 b).2.1 := by decide +kernel
theorem tyJ0_ok : ∀ k, k < 0 → parseFieldDescriptor (TJ0 k).2.2.1 = some (tyJ0 k) := by decide +kernel
abbrev cJ0_length_8abf5 : ByteArray := prog_9_method_54_code
def yJ0_length_8abf5 : MethodName := ⟨RJ0, "length", "()I"⟩
abbrev cJ0_charAt_5068e : ByteArray := prog_9_method_56_code
def yJ0_charAt_5068e : MethodName := ⟨RJ0, "charAt", "(I)C"⟩
abbrev cJ0_coder_7d493 : ByteArray := prog_9_method_152_code
def yJ0_coder_7d493 : MethodName := ⟨RJ0, "coder", "()B"⟩
abbrev cJ0_isLatin1_aae02 : ByteArray := prog_9_method_154_code
def yJ0_isLatin1_aae02 : MethodName := ⟨RJ0, "isLatin1", "()Z"⟩
abbrev cJ0_checkIndex_df160 : ByteArray := prog_9_method_155_code
def yJ0_checkIndex_df160 : MethodName := ⟨RJ0, "checkIndex", "(II)V"⟩
def RJ1 : String := "java/lang/StringLatin1"
def TJ1 : u_T := fun k => match k with
  | _ => ("", "", "", false)
def tyJ1 : Nat → FieldType := fun k => match k with
  | _ => .int
abbrev wsJ10 : List Cond := u_ws RJ1 TJ1 0
theorem nmJ1 : ∀ a, a < 0 → ∀ b, b < 0 → a ≠ b → (TJ1 a).2.1 ≠ (TJ1 b).2.1 := by decide +kernel
theorem tyJ1_ok : ∀ k, k < 0 → parseFieldDescriptor (TJ1 k).2.2.1 = some (tyJ1 k) := by decide +kernel
abbrev cJ1_charAt_3b067 : ByteArray := prog_10_method_2_code
def yJ1_charAt_3b067 : MethodName := ⟨RJ1, "charAt", "([BI)C"⟩
def RJ2 : String := "java/lang/StringUTF16"
def TJ2 : u_T := fun k => match k with
  | _ => ("", "", "", false)
def tyJ2 : Nat → FieldType := fun k => match k with
  | _ => .int
abbrev wsJ20 : List Cond := u_ws RJ2 TJ2 0
theorem nmJ2 : ∀ a, a < 0 → ∀ b, b < 0 → a ≠ b → (TJ2 a).2.1 ≠ (TJ2 b).2.1 := by decide +kernel
theorem tyJ2_ok : ∀ k, k < 0 → parseFieldDescriptor (TJ2 k).2.2.1 = some (tyJ2 k) := by decide +kernel
abbrev cJ2_getChar_3b067 : ByteArray := prog_11_method_5_code
def yJ2_getChar_3b067 : MethodName := ⟨RJ2, "getChar", "([BI)C"⟩
abbrev cJ2_length_9d52b : ByteArray := prog_11_method_6_code
def yJ2_length_9d52b : MethodName := ⟨RJ2, "length", "([B)I"⟩
abbrev cJ2_charAt_3b067 : ByteArray := prog_11_method_83_code
def yJ2_charAt_3b067 : MethodName := ⟨RJ2, "charAt", "([BI)C"⟩
abbrev cJ2_checkIndex_2214a : ByteArray := prog_11_method_91_code
def yJ2_checkIndex_2214a : MethodName := ⟨RJ2, "checkIndex", "(I[B)V"⟩
def RJ3 : String := "jdk/internal/util/Preconditions"
def TJ3 : u_T := fun k => match k with
  | _ => ("", "", "", false)
def tyJ3 : Nat → FieldType := fun k => match k with
  | _ => .int
abbrev wsJ30 : List Cond := u_ws RJ3 TJ3 0
theorem nmJ3 : ∀ a, a < 0 → ∀ b, b < 0 → a ≠ b → (TJ3 a).2.1 ≠ (TJ3 b).2.1 := by decide +kernel
theorem tyJ3_ok : ∀ k, k < 0 → parseFieldDescriptor (TJ3 k).2.2.1 = some (tyJ3 k) := by decide +kernel
abbrev cJ3_checkIndex_8e157 : ByteArray := prog_12_method_11_code
def yJ3_checkIndex_8e157 : MethodName := ⟨RJ3, "checkIndex", "(IILjava/util/function/BiFunction;)I"⟩
def RL : String := "BurstSkinsLaw"
abbrev cL_law : ByteArray := code
def yL_law : MethodName := ⟨RL, "law", "([I)Z"⟩
def wsL_law_r1 : List Cond := [Cond.classLink RL 7 RX4, Cond.instantiable RX4 14, Cond.initialized RX4, Cond.classLink RL 10 RX5, Cond.instantiable RX5 25, Cond.initialized RX5, Cond.constantLong RL 13 (4294967295), Cond.methodLink RL 9 yX4_init, Cond.instanceMethod yX4_init, Cond.code yX4_init cX4_init 1 none, Cond.methodLink RX4 1 objectInit, Cond.instanceMethod objectInit, Cond.code objectInit ⟨#[0xb1]⟩ 1 none, Cond.classLink RX4 7 RX3, Cond.instantiable RX3 13, Cond.initialized RX3, Cond.fieldLink RX4 10 "BurstSkins" "recipe" "LBurstSkins$Recipe;", Cond.fieldLink RX4 16 "BurstSkins" "draft" "LBurstSkins$Recipe;", Cond.fieldLink RX4 19 "BurstSkins" "changed" "LBurstSkins$Recipe;", Cond.classLink RX4 22 RX2, Cond.instantiable RX2 9, Cond.initialized RX2, Cond.fieldLink RX4 25 "BurstSkins" "reader" "LBurstSkins$Reader;", Cond.classLink RX4 29 RX1]
def wsL_law_r2 : List Cond := [Cond.instantiable RX1 11, Cond.initialized RX1, Cond.fieldLink RX4 32 "BurstSkins" "moment" "LBurstSkins$Moment;", Cond.classLink RX4 36 RX0, Cond.instantiable RX0 5, Cond.initialized RX0, Cond.fieldLink RX4 39 "BurstSkins" "journey" "LBurstSkins$Journey;", Cond.fieldLink RX4 43 "BurstSkins" "images" "[LBurstSkins$Moment;", Cond.arrayClass .boolean, Cond.fieldLink RX4 47 "BurstSkins" "kept" "[Z", Cond.arrayClass .int, Cond.fieldLink RX4 51 "BurstSkins" "heats" "[I", Cond.fieldLink RX4 55 "BurstSkins" "salts" "[I", Cond.fieldLink RX4 58 "BurstSkins" "crumbsOf" "[I", Cond.methodLink RX4 9 yX3_init, Cond.instanceMethod yX3_init, Cond.code yX3_init cX3_init 1 none, Cond.methodLink RX3 3 objectInit, Cond.fieldLink RX3 11 "BurstSkins$Recipe" "kinds" "[I", Cond.fieldLink RX3 15 "BurstSkins$Recipe" "firsts" "[I", Cond.fieldLink RX3 18 "BurstSkins$Recipe" "seconds" "[I", Cond.methodLink RX3 21 yX3_setAtFirst, Cond.instanceMethod yX3_setAtFirst, Cond.selects RX3 yX3_setAtFirst yX3_setAtFirst]
def wsL_law_r3 : List Cond := [Cond.code yX3_setAtFirst cX3_setAtFirst 1 none, Cond.fieldLink RX3 24 "BurstSkins$Recipe" "radius" "I", Cond.fieldLink RX3 28 "BurstSkins$Recipe" "skin" "I", Cond.fieldLink RX3 31 "BurstSkins$Recipe" "filling" "I", Cond.fieldLink RX3 34 "BurstSkins$Recipe" "water" "I", Cond.fieldLink RX3 37 "BurstSkins$Recipe" "ends" "I", Cond.fieldLink RX3 40 "BurstSkins$Recipe" "thin" "I", Cond.fieldLink RX3 43 "BurstSkins$Recipe" "chance" "I", Cond.fieldLink RX3 46 "BurstSkins$Recipe" "bentFace" "I", Cond.fieldLink RX3 49 "BurstSkins$Recipe" "bentBy" "I", Cond.fieldLink RX3 52 "BurstSkins$Recipe" "doings" "I", Cond.instanceMethod yX2_init, Cond.code yX2_init cX2_init 1 none, Cond.methodLink RX2 3 objectInit, Cond.fieldLink RX2 9 "BurstSkins$Reader" "text" "[I", Cond.fieldLink RX2 15 "BurstSkins$Reader" "numbers" "[I", Cond.instanceMethod yX1_init, Cond.code yX1_init cX1_init 1 none, Cond.methodLink RX1 3 objectInit, Cond.fieldLink RX1 9 "BurstSkins$Moment" "degrees" "[I", Cond.fieldLink RX1 15 "BurstSkins$Moment" "brown" "[I", Cond.instanceMethod yX0_init, Cond.code yX0_init cX0_init 1 none, Cond.methodLink RX0 3 objectInit]
def wsL_law_r4 : List Cond := [Cond.classLink RX0 9 RX1, Cond.fieldLink RX0 12 "BurstSkins$Journey" "at" "LBurstSkins$Moment;", Cond.methodLink RX4 61 yX1_begin, Cond.instanceMethod yX1_begin, Cond.selects RX1 yX1_begin yX1_begin, Cond.code yX1_begin cX1_begin 3 none, Cond.fieldLink RX1 18 "BurstSkins$Moment" "down" "I", Cond.fieldLink RX1 22 "BurstSkins$Moment" "core" "I", Cond.fieldLink RX1 25 "BurstSkins$Recipe" "water" "I", Cond.fieldLink RX1 30 "BurstSkins$Moment" "water" "I", Cond.fieldLink RX1 31 "BurstSkins$Moment" "pricked" "I", Cond.fieldLink RX1 34 "BurstSkins$Moment" "thinSpots" "I", Cond.fieldLink RX1 37 "BurstSkins$Moment" "seconds" "I", Cond.fieldLink RX1 40 "BurstSkins$Moment" "gone" "I", Cond.fieldLink RX1 43 "BurstSkins$Moment" "splitAt" "I", Cond.fieldLink RX1 46 "BurstSkins$Moment" "steam" "I", Cond.methodLink RL 12 yX5_init, Cond.instanceMethod yX5_init, Cond.code yX5_init cX5_init 7 none, Cond.methodLink RX5 1 objectInit, Cond.arrayClass .byte, Cond.fieldLink RX5 7 "BurstSkinsModel" "text" "[B", Cond.fieldLink RX5 13 "BurstSkinsModel" "is" "[I", Cond.fieldLink RX5 17 "BurstSkinsModel" "doings" "[I"]
def wsL_law_r5 : List Cond := [Cond.fieldLink RX5 20 "BurstSkinsModel" "doing" "[I", Cond.fieldLink RX5 23 "BurstSkinsModel" "row" "[I", Cond.fieldLink RX5 26 "BurstSkinsModel" "isKept" "[Z", Cond.fieldLink RX5 30 "BurstSkinsModel" "when" "I", Cond.fieldLink RX5 34 "BurstSkinsModel" "best" "[I", Cond.fieldLink RX5 37 "BurstSkinsModel" "heats" "[I", Cond.fieldLink RX5 40 "BurstSkinsModel" "orders" "[I", Cond.fieldLink RX5 43 "BurstSkinsModel" "has" "[I", Cond.fieldLink RX5 46 "BurstSkinsModel" "salt" "[I", Cond.fieldLink RX5 49 "BurstSkinsModel" "crumbs" "[I", Cond.methodLink RX5 52 yX5_begins, Cond.instanceMethod yX5_begins, Cond.selects RX5 yX5_begins yX5_begins, Cond.code yX5_begins cX5_begins 3 none, Cond.methodLink RL 15 yX4_type, Cond.instanceMethod yX4_type, Cond.selects RX4 yX4_type yX4_type, Cond.code yX4_type cX4_type 5 (some .int), Cond.fieldLink RX4 69 "BurstSkins$Reader" "length" "I", Cond.methodLink RX4 65 yX4_outside, Cond.static yX4_outside, Cond.code yX4_outside cX4_outside 3 (some .boolean), Cond.methodLink RX4 73 yX2_append, Cond.instanceMethod yX2_append]
def wsL_law_r6 : List Cond := [Cond.selects RX2 yX2_append yX2_append, Cond.code yX2_append cX2_append 2 none, Cond.fieldLink RX2 18 "BurstSkins$Reader" "length" "I", Cond.methodLink RL 19 yX5_type, Cond.instanceMethod yX5_type, Cond.selects RX5 yX5_type yX5_type, Cond.code yX5_type cX5_type 5 (some .int), Cond.constantLong RX5 56 (8), Cond.fieldLink RX5 62 "BurstSkinsModel" "length" "I", Cond.methodLink RX5 58 yX5_in, Cond.static yX5_in, Cond.code yX5_in cX5_in 6 (some .boolean), Cond.methodLink RL 20 yX4_clear, Cond.instanceMethod yX4_clear, Cond.selects RX4 yX4_clear yX4_clear, Cond.code yX4_clear cX4_clear 2 (some .int), Cond.methodLink RL 24 yX5_clear, Cond.instanceMethod yX5_clear, Cond.selects RX5 yX5_clear yX5_clear, Cond.code yX5_clear cX5_clear 2 (some .int), Cond.methodLink RL 25 yX4_sausage, Cond.instanceMethod yX4_sausage, Cond.selects RX4 yX4_sausage yX4_sausage, Cond.code yX4_sausage cX4_sausage 3 (some .int)]
def wsL_law_r7 : List Cond := [Cond.methodLink RX4 77 yX2_readAll, Cond.instanceMethod yX2_readAll, Cond.selects RX2 yX2_readAll yX2_readAll, Cond.code yX2_readAll cX2_readAll 3 (some .int), Cond.fieldLink RX2 27 "BurstSkins$Reader" "next" "I", Cond.fieldLink RX2 30 "BurstSkins$Reader" "skinTold" "Z", Cond.fieldLink RX2 34 "BurstSkins$Reader" "bentTold" "Z", Cond.fieldLink RX2 40 "BurstSkins$Reader" "token" "I", Cond.fieldLink RX2 47 "BurstSkins$Reader" "place" "I", Cond.methodLink RX2 22 yX3_setAtFirst, Cond.methodLink RX2 37 yX2_readToken, Cond.instanceMethod yX2_readToken, Cond.selects RX2 yX2_readToken yX2_readToken, Cond.code yX2_readToken cX2_readToken 2 none, Cond.fieldLink RX2 50 "BurstSkins$Reader" "value" "I", Cond.methodLink RX2 109 yX2_byteAt, Cond.instanceMethod yX2_byteAt, Cond.selects RX2 yX2_byteAt yX2_byteAt, Cond.code yX2_byteAt cX2_byteAt 2 (some .int), Cond.methodLink RX2 113 yX2_isDigit, Cond.static yX2_isDigit, Cond.code yX2_isDigit cX2_isDigit 1 (some .boolean), Cond.methodLink RX2 117 yX2_readNumber, Cond.instanceMethod yX2_readNumber]
def wsL_law_r8 : List Cond := [Cond.selects RX2 yX2_readNumber yX2_readNumber, Cond.code yX2_readNumber cX2_readNumber 2 none, Cond.methodLink RX2 126 Lib.Math.min.name, Cond.static Lib.Math.min.name, Cond.initialized "java/lang/Math", Cond.code Lib.Math.min.name Lib.Math.min.code 2 (some .int), Cond.methodLink RX2 120 yX2_isLetter, Cond.static yX2_isLetter, Cond.code yX2_isLetter cX2_isLetter 1 (some .boolean), Cond.methodLink RX2 123 yX2_readWord, Cond.instanceMethod yX2_readWord, Cond.selects RX2 yX2_readWord yX2_readWord, Cond.code yX2_readWord cX2_readWord 2 none, Cond.methodLink RX2 132 yX2_nameOf, Cond.static yX2_nameOf, Cond.code yX2_nameOf cX2_nameOf 1 (some (.object "java/lang/String")), Cond.methodLink RX2 136 yX2_isWord, Cond.instanceMethod yX2_isWord, Cond.selects RX2 yX2_isWord yX2_isWord, Cond.code yX2_isWord cX2_isWord 3 (some .boolean), Cond.methodLink RX2 151 yJ0_length_8abf5, Cond.instanceMethod yJ0_length_8abf5, Cond.selects RJ0 yJ0_length_8abf5 yJ0_length_8abf5, Cond.initialized RJ0]
def wsL_law_r9 : List Cond := [Cond.code yJ0_length_8abf5 cJ0_length_8abf5 1 (some .int), Cond.fieldLink RJ0 9 "java/lang/String" "value" "[B", Cond.methodLink RJ0 335 yJ0_coder_7d493, Cond.instanceMethod yJ0_coder_7d493, Cond.selects RJ0 yJ0_coder_7d493 yJ0_coder_7d493, Cond.code yJ0_coder_7d493 cJ0_coder_7d493 1 (some .byte), Cond.fieldLink RJ0 38 "java/lang/String" "COMPACT_STRINGS" "Z", Cond.fieldLink RJ0 15 "java/lang/String" "coder" "B", Cond.methodLink RX2 156 yJ0_charAt_5068e, Cond.instanceMethod yJ0_charAt_5068e, Cond.selects RJ0 yJ0_charAt_5068e yJ0_charAt_5068e, Cond.code yJ0_charAt_5068e cJ0_charAt_5068e 2 (some .char), Cond.methodLink RJ0 492 yJ0_isLatin1_aae02, Cond.instanceMethod yJ0_isLatin1_aae02, Cond.selects RJ0 yJ0_isLatin1_aae02 yJ0_isLatin1_aae02, Cond.code yJ0_isLatin1_aae02 cJ0_isLatin1_aae02 1 (some .boolean), Cond.methodLink RJ0 495 yJ1_charAt_3b067, Cond.static yJ1_charAt_3b067, Cond.initialized RJ1, Cond.code yJ1_charAt_3b067 cJ1_charAt_3b067 2 (some .char), Cond.methodLink RJ1 9 yJ0_checkIndex_df160, Cond.static yJ0_checkIndex_df160, Cond.code yJ0_checkIndex_df160 cJ0_checkIndex_df160 2 none, Cond.fieldLink RJ0 1053 "jdk/internal/util/Preconditions" "SIOOBE_FORMATTER" "Ljava/util/function/BiFunction;"]
def wsL_law_r10 : List Cond := [Cond.methodLink RJ0 1059 yJ3_checkIndex_8e157, Cond.static yJ3_checkIndex_8e157, Cond.initialized RJ3, Cond.code yJ3_checkIndex_8e157 cJ3_checkIndex_8e157 3 (some .int), Cond.methodLink RJ0 498 yJ2_charAt_3b067, Cond.static yJ2_charAt_3b067, Cond.initialized RJ2, Cond.code yJ2_charAt_3b067 cJ2_charAt_3b067 2 (some .char), Cond.methodLink RJ2 67 yJ2_checkIndex_2214a, Cond.static yJ2_checkIndex_2214a, Cond.code yJ2_checkIndex_2214a cJ2_checkIndex_2214a 2 none, Cond.methodLink RJ2 48 yJ2_length_9d52b, Cond.static yJ2_length_9d52b, Cond.code yJ2_length_9d52b cJ2_length_9d52b 1 (some .int), Cond.methodLink RJ2 414 yJ0_checkIndex_df160, Cond.methodLink RJ2 71 yJ2_getChar_3b067, Cond.static yJ2_getChar_3b067, Cond.code yJ2_getChar_3b067 cJ2_getChar_3b067 2 (some .char), Cond.fieldLink RJ2 44 "java/lang/StringUTF16" "$assertionsDisabled" "Z", Cond.fieldLink RJ2 59 "java/lang/StringUTF16" "HI_BYTE_SHIFT" "I", Cond.fieldLink RJ2 63 "java/lang/StringUTF16" "LO_BYTE_SHIFT" "I", Cond.methodLink RX2 43 yX2_readItem, Cond.instanceMethod yX2_readItem, Cond.selects RX2 yX2_readItem yX2_readItem]
def wsL_law_r11 : List Cond := [Cond.code yX2_readItem cX2_readItem 6 (some .boolean), Cond.fieldLink RX2 61 "BurstSkins$Reader" "FROM" "[I", Cond.fieldLink RX2 64 "BurstSkins$Reader" "LOW" "[I", Cond.fieldLink RX2 67 "BurstSkins$Reader" "HIGH" "[I", Cond.methodLink RX2 57 yX2_mayStand, Cond.instanceMethod yX2_mayStand, Cond.selects RX2 yX2_mayStand yX2_mayStand, Cond.code yX2_mayStand cX2_mayStand 3 (some .boolean), Cond.methodLink RX2 74 yX3_isFull, Cond.instanceMethod yX3_isFull, Cond.selects RX3 yX3_isFull yX3_isFull, Cond.code yX3_isFull cX3_isFull 1 (some .boolean), Cond.methodLink RX2 70 yX2_tell, Cond.instanceMethod yX2_tell, Cond.selects RX2 yX2_tell yX2_tell, Cond.code yX2_tell cX2_tell 4 none, Cond.fieldLink RX2 78 "BurstSkins$Recipe" "radius" "I", Cond.fieldLink RX2 81 "BurstSkins$Recipe" "skin" "I", Cond.fieldLink RX2 84 "BurstSkins$Recipe" "filling" "I", Cond.fieldLink RX2 87 "BurstSkins$Recipe" "water" "I", Cond.fieldLink RX2 90 "BurstSkins$Recipe" "ends" "I", Cond.fieldLink RX2 93 "BurstSkins$Recipe" "thin" "I", Cond.fieldLink RX2 96 "BurstSkins$Recipe" "chance" "I", Cond.fieldLink RX2 99 "BurstSkins$Recipe" "bentFace" "I"]
def wsL_law_r12 : List Cond := [Cond.fieldLink RX2 102 "BurstSkins$Recipe" "bentBy" "I", Cond.methodLink RX2 105 yX3_add, Cond.instanceMethod yX3_add, Cond.selects RX3 yX3_add yX3_add, Cond.code yX3_add cX3_add 4 none, Cond.methodLink RX4 81 yX3_take, Cond.instanceMethod yX3_take, Cond.selects RX3 yX3_take yX3_take, Cond.code yX3_take cX3_take 3 none, Cond.methodLink RL 28 yX5_sausage, Cond.instanceMethod yX5_sausage, Cond.selects RX5 yX5_sausage yX5_sausage, Cond.code yX5_sausage cX5_sausage 3 (some .int), Cond.fieldLink RX5 134 "BurstSkinsModel" "items" "I", Cond.methodLink RX5 140 yX5_reads, Cond.instanceMethod yX5_reads, Cond.selects RX5 yX5_reads yX5_reads, Cond.code yX5_reads cX5_reads 2 (some .int), Cond.fieldLink RX5 65 "BurstSkinsModel" "at" "I", Cond.fieldLink RX5 101 "BurstSkinsModel" "hasSkin" "Z", Cond.fieldLink RX5 113 "BurstSkinsModel" "hasBend" "Z", Cond.fieldLink RX5 68 "BurstSkinsModel" "begin" "I", Cond.methodLink RX5 71 yX5_blanks, Cond.instanceMethod yX5_blanks]
def wsL_law_r13 : List Cond := [Cond.selects RX5 yX5_blanks yX5_blanks, Cond.code yX5_blanks cX5_blanks 1 none, Cond.methodLink RX5 137 yX5_isItem, Cond.instanceMethod yX5_isItem, Cond.selects RX5 yX5_isItem yX5_isItem, Cond.code yX5_isItem cX5_isItem 3 (some .boolean), Cond.methodLink RX5 116 yX5_word, Cond.instanceMethod yX5_word, Cond.selects RX5 yX5_word yX5_word, Cond.code yX5_word cX5_word 3 (some .int), Cond.constantLong RX5 81 (97), Cond.constantLong RX5 83 (122), Cond.constantLong RX5 85 (256), Cond.constantLong RX5 87 (-1), Cond.constantLong RX5 89 (1718186597), Cond.constantLong RX5 91 (1953854062), Cond.constantLong RX5 93 (482955846507), Cond.constantLong RX5 95 (126896644646258), Cond.constantLong RX5 97 (1936419182), Cond.constantLong RX5 99 (1650814580), Cond.methodLink RX5 120 yX5_isSkin, Cond.instanceMethod yX5_isSkin, Cond.selects RX5 yX5_isSkin yX5_isSkin, Cond.code yX5_isSkin cX5_isSkin 3 (some .boolean)]
def wsL_law_r14 : List Cond := [Cond.fieldLink RX5 74 "BurstSkinsModel" "told" "I", Cond.methodLink RX5 105 yX5_highest, Cond.static yX5_highest, Cond.code yX5_highest cX5_highest 1 (some .int), Cond.methodLink RX5 109 yX5_number, Cond.instanceMethod yX5_number, Cond.selects RX5 yX5_number yX5_number, Cond.code yX5_number cX5_number 4 (some .boolean), Cond.constantLong RX5 77 (48), Cond.constantLong RX5 79 (57), Cond.methodLink RX5 124 yX5_isBend, Cond.instanceMethod yX5_isBend, Cond.selects RX5 yX5_isBend yX5_isBend, Cond.code yX5_isBend cX5_isBend 2 (some .boolean), Cond.methodLink RX5 127 yX5_isDoing, Cond.instanceMethod yX5_isDoing, Cond.selects RX5 yX5_isDoing yX5_isDoing, Cond.code yX5_isDoing cX5_isDoing 3 (some .boolean), Cond.methodLink RX5 131 yX5_ends, Cond.instanceMethod yX5_ends, Cond.selects RX5 yX5_ends yX5_ends, Cond.code yX5_ends cX5_ends 1 (some .boolean), Cond.methodLink RL 29 yX4_told, Cond.instanceMethod yX4_told]
def wsL_law_r15 : List Cond := [Cond.selects RX4 yX4_told yX4_told, Cond.code yX4_told cX4_told 2 (some .int), Cond.fieldLink RX4 84 "BurstSkins$Recipe" "radius" "I", Cond.fieldLink RX4 87 "BurstSkins$Recipe" "skin" "I", Cond.fieldLink RX4 90 "BurstSkins$Recipe" "filling" "I", Cond.fieldLink RX4 93 "BurstSkins$Recipe" "water" "I", Cond.fieldLink RX4 96 "BurstSkins$Recipe" "ends" "I", Cond.fieldLink RX4 99 "BurstSkins$Recipe" "thin" "I", Cond.fieldLink RX4 102 "BurstSkins$Recipe" "chance" "I", Cond.fieldLink RX4 105 "BurstSkins$Recipe" "bentFace" "I", Cond.fieldLink RX4 108 "BurstSkins$Recipe" "bentBy" "I", Cond.fieldLink RX4 111 "BurstSkins$Recipe" "doings" "I", Cond.methodLink RX4 114 yX3_planSeconds, Cond.instanceMethod yX3_planSeconds, Cond.selects RX3 yX3_planSeconds yX3_planSeconds, Cond.code yX3_planSeconds cX3_planSeconds 3 (some .int), Cond.methodLink RL 33 yX5_told, Cond.instanceMethod yX5_told, Cond.selects RX5 yX5_told yX5_told, Cond.code yX5_told cX5_told 2 (some .int), Cond.constantLong RX5 143 (10), Cond.methodLink RX5 145 yX5_allSeconds, Cond.instanceMethod yX5_allSeconds, Cond.selects RX5 yX5_allSeconds yX5_allSeconds]
def wsL_law_r16 : List Cond := [Cond.code yX5_allSeconds cX5_allSeconds 3 (some .int), Cond.methodLink RL 34 yX4_doing, Cond.instanceMethod yX4_doing, Cond.selects RX4 yX4_doing yX4_doing, Cond.code yX4_doing cX4_doing 3 (some .int), Cond.fieldLink RX4 118 "BurstSkins$Recipe" "kinds" "[I", Cond.fieldLink RX4 121 "BurstSkins$Recipe" "firsts" "[I", Cond.fieldLink RX4 124 "BurstSkins$Recipe" "seconds" "[I", Cond.methodLink RL 38 yX5_doing, Cond.instanceMethod yX5_doing, Cond.selects RX5 yX5_doing yX5_doing, Cond.code yX5_doing cX5_doing 3 (some .int), Cond.constantLong RX5 148 (2), Cond.methodLink RL 39 yX4_fire, Cond.instanceMethod yX4_fire, Cond.selects RX4 yX4_fire yX4_fire, Cond.code yX4_fire cX4_fire 3 (some .int), Cond.methodLink RX4 127 yX4_passSeconds, Cond.instanceMethod yX4_passSeconds, Cond.selects RX4 yX4_passSeconds yX4_passSeconds, Cond.code yX4_passSeconds cX4_passSeconds 5 (some .int), Cond.fieldLink RX4 169 "BurstSkins$Moment" "gone" "I", Cond.methodLink RX4 289 yX1_pass, Cond.instanceMethod yX1_pass]
def wsL_law_r17 : List Cond := [Cond.selects RX1 yX1_pass yX1_pass, Cond.code yX1_pass cX1_pass 5 (some .int), Cond.methodLink RX1 55 yX1_fireFaces, Cond.instanceMethod yX1_fireFaces, Cond.selects RX1 yX1_fireFaces yX1_fireFaces, Cond.code yX1_fireFaces cX1_fireFaces 3 none, Cond.methodLink RX1 59 yX1_simmerFaces, Cond.instanceMethod yX1_simmerFaces, Cond.selects RX1 yX1_simmerFaces yX1_simmerFaces, Cond.code yX1_simmerFaces cX1_simmerFaces 3 none, Cond.methodLink RX1 62 yX1_warmCore, Cond.instanceMethod yX1_warmCore, Cond.selects RX1 yX1_warmCore yX1_warmCore, Cond.code yX1_warmCore cX1_warmCore 4 none, Cond.fieldLink RX1 80 "BurstSkins$Recipe" "radius" "I", Cond.methodLink RX1 83 Lib.Math.max.name, Cond.static Lib.Math.max.name, Cond.code Lib.Math.max.name Lib.Math.max.code 2 (some .int), Cond.methodLink RX1 66 yX1_boil, Cond.instanceMethod yX1_boil, Cond.selects RX1 yX1_boil yX1_boil, Cond.code yX1_boil cX1_boil 3 none, Cond.methodLink RX1 69 yX1_browner, Cond.instanceMethod yX1_browner]
def wsL_law_r18 : List Cond := [Cond.selects RX1 yX1_browner yX1_browner, Cond.code yX1_browner cX1_browner 3 none, Cond.methodLink RX1 49 Lib.Math.min.name, Cond.methodLink RX1 72 yX1_pressIn, Cond.instanceMethod yX1_pressIn, Cond.selects RX1 yX1_pressIn yX1_pressIn, Cond.code yX1_pressIn cX1_pressIn 3 (some .int), Cond.fieldLink RX1 101 "BurstSkins$Recipe" "filling" "I", Cond.methodLink RX1 76 yX1_goIfPulled, Cond.instanceMethod yX1_goIfPulled, Cond.selects RX1 yX1_goIfPulled yX1_goIfPulled, Cond.code yX1_goIfPulled cX1_goIfPulled 4 none, Cond.fieldLink RX1 98 "BurstSkins$Recipe" "ends" "I", Cond.methodLink RX1 86 yX1_pullRound, Cond.static yX1_pullRound, Cond.code yX1_pullRound cX1_pullRound 4 (some .int), Cond.fieldLink RX1 104 "BurstSkins$Recipe" "bentFace" "I", Cond.fieldLink RX1 107 "BurstSkins$Recipe" "bentBy" "I", Cond.methodLink RX1 90 yX1_strengthAt, Cond.instanceMethod yX1_strengthAt, Cond.selects RX1 yX1_strengthAt yX1_strengthAt, Cond.code yX1_strengthAt cX1_strengthAt 5 (some .int), Cond.fieldLink RX1 114 "BurstSkins$Recipe" "thin" "I", Cond.fieldLink RX1 117 "BurstSkins$Recipe" "skin" "I"]
def wsL_law_r19 : List Cond := [Cond.methodLink RX1 94 yX1_pullAlong, Cond.static yX1_pullAlong, Cond.code yX1_pullAlong cX1_pullAlong 2 (some .int), Cond.methodLink RL 42 yX5_fire, Cond.instanceMethod yX5_fire, Cond.selects RX5 yX5_fire yX5_fire, Cond.code yX5_fire cX5_fire 4 (some .int), Cond.constantLong RX5 160 (300), Cond.constantLong RX5 162 (99), Cond.methodLink RX5 164 yX5_second, Cond.instanceMethod yX5_second, Cond.selects RX5 yX5_second yX5_second, Cond.code yX5_second cX5_second 11 none, Cond.methodLink RX5 150 yX5_press, Cond.instanceMethod yX5_press, Cond.selects RX5 yX5_press yX5_press, Cond.code yX5_press cX5_press 5 (some .int), Cond.methodLink RX5 153 yX5_pulls, Cond.instanceMethod yX5_pulls, Cond.selects RX5 yX5_pulls yX5_pulls, Cond.code yX5_pulls cX5_pulls 3 (some .int), Cond.methodLink RX5 157 yX5_holdsAt, Cond.instanceMethod yX5_holdsAt, Cond.selects RX5 yX5_holdsAt yX5_holdsAt]
def wsL_law_r20 : List Cond := [Cond.code yX5_holdsAt cX5_holdsAt 6 (some .int), Cond.methodLink RL 43 yX4_simmer, Cond.instanceMethod yX4_simmer, Cond.selects RX4 yX4_simmer yX4_simmer, Cond.code yX4_simmer cX4_simmer 3 (some .int), Cond.methodLink RL 46 yX5_simmer, Cond.instanceMethod yX5_simmer, Cond.selects RX5 yX5_simmer yX5_simmer, Cond.code yX5_simmer cX5_simmer 4 (some .int), Cond.constantLong RX5 168 (20), Cond.constantLong RX5 170 (100), Cond.methodLink RL 47 yX4_turn, Cond.instanceMethod yX4_turn, Cond.selects RX4 yX4_turn yX4_turn, Cond.code yX4_turn cX4_turn 2 (some .int), Cond.fieldLink RX4 134 "BurstSkins$Moment" "down" "I", Cond.methodLink RX4 131 yX1_turnBy, Cond.instanceMethod yX1_turnBy, Cond.selects RX1 yX1_turnBy yX1_turnBy, Cond.code yX1_turnBy cX1_turnBy 2 none, Cond.methodLink RL 50 yX5_turn, Cond.instanceMethod yX5_turn, Cond.selects RX5 yX5_turn yX5_turn, Cond.code yX5_turn cX5_turn 2 (some .int)]
def wsL_law_r21 : List Cond := [Cond.constantLong RX5 172 (3), Cond.methodLink RX5 174 yX5_turns, Cond.instanceMethod yX5_turns, Cond.selects RX5 yX5_turns yX5_turns, Cond.code yX5_turns cX5_turns 3 none, Cond.methodLink RL 51 yX4_prick, Cond.instanceMethod yX4_prick, Cond.selects RX4 yX4_prick yX4_prick, Cond.code yX4_prick cX4_prick 2 (some .int), Cond.fieldLink RX4 140 "BurstSkins$Moment" "pricked" "I", Cond.methodLink RX4 137 yX1_prickBy, Cond.instanceMethod yX1_prickBy, Cond.selects RX1 yX1_prickBy yX1_prickBy, Cond.code yX1_prickBy cX1_prickBy 2 none, Cond.methodLink RL 54 yX5_prick, Cond.instanceMethod yX5_prick, Cond.selects RX5 yX5_prick yX5_prick, Cond.code yX5_prick cX5_prick 2 (some .int), Cond.constantLong RX5 178 (9), Cond.methodLink RX5 180 yX5_pricked, Cond.instanceMethod yX5_pricked, Cond.selects RX5 yX5_pricked yX5_pricked, Cond.code yX5_pricked cX5_pricked 4 none, Cond.methodLink RL 55 yX4_spots]
def wsL_law_r22 : List Cond := [Cond.instanceMethod yX4_spots, Cond.selects RX4 yX4_spots yX4_spots, Cond.code yX4_spots cX4_spots 3 (some .int), Cond.fieldLink RX4 143 "BurstSkins$Moment" "thinSpots" "I", Cond.methodLink RL 58 yX5_spots, Cond.instanceMethod yX5_spots, Cond.selects RX5 yX5_spots yX5_spots, Cond.code yX5_spots cX5_spots 3 (some .int), Cond.constantLong RX5 183 (15), Cond.methodLink RL 59 yX4_face, Cond.instanceMethod yX4_face, Cond.selects RX4 yX4_face yX4_face, Cond.code yX4_face cX4_face 3 (some .int), Cond.fieldLink RX4 146 "BurstSkins$Moment" "degrees" "[I", Cond.fieldLink RX4 149 "BurstSkins$Moment" "brown" "[I", Cond.methodLink RX4 152 yX1_strengthAt, Cond.methodLink RX4 156 yX1_pressIn, Cond.methodLink RX4 159 yX1_pullRound, Cond.methodLink RL 62 yX5_face, Cond.instanceMethod yX5_face, Cond.selects RX5 yX5_face yX5_face, Cond.code yX5_face cX5_face 3 (some .int), Cond.methodLink RL 63 yX4_now, Cond.instanceMethod yX4_now]
def wsL_law_r23 : List Cond := [Cond.selects RX4 yX4_now yX4_now, Cond.code yX4_now cX4_now 2 (some .int), Cond.fieldLink RX4 163 "BurstSkins$Moment" "core" "I", Cond.fieldLink RX4 166 "BurstSkins$Moment" "water" "I", Cond.fieldLink RX4 167 "BurstSkins$Moment" "seconds" "I", Cond.fieldLink RX4 172 "BurstSkins$Moment" "splitAt" "I", Cond.fieldLink RX4 179 "BurstSkins$Moment" "steam" "I", Cond.methodLink RX4 175 yX1_pullAlong, Cond.methodLink RL 66 yX5_now, Cond.instanceMethod yX5_now, Cond.selects RX5 yX5_now yX5_now, Cond.code yX5_now cX5_now 2 (some .int), Cond.methodLink RL 67 yX4_anew, Cond.instanceMethod yX4_anew, Cond.selects RX4 yX4_anew yX4_anew, Cond.code yX4_anew cX4_anew 2 (some .int), Cond.methodLink RL 70 yX5_anew, Cond.instanceMethod yX5_anew, Cond.selects RX5 yX5_anew yX5_anew, Cond.code yX5_anew cX5_anew 2 (some .int), Cond.methodLink RL 71 yX4_run, Cond.instanceMethod yX4_run, Cond.selects RX4 yX4_run yX4_run, Cond.code yX4_run cX4_run 3 (some .int)]
def wsL_law_r24 : List Cond := [Cond.fieldLink RX4 189 "BurstSkins$Journey" "when" "I", Cond.fieldLink RX4 192 "BurstSkins$Journey" "at" "LBurstSkins$Moment;", Cond.fieldLink RX4 201 "BurstSkins$Journey" "greatest" "I", Cond.fieldLink RX4 204 "BurstSkins$Journey" "greatestAt" "I", Cond.fieldLink RX4 207 "BurstSkins$Journey" "hiss" "I", Cond.methodLink RX4 182 yX0_begin, Cond.instanceMethod yX0_begin, Cond.selects RX0 yX0_begin yX0_begin, Cond.code yX0_begin cX0_begin 3 none, Cond.fieldLink RX0 22 "BurstSkins$Moment" "thinSpots" "I", Cond.fieldLink RX0 26 "BurstSkins$Journey" "when" "I", Cond.fieldLink RX0 29 "BurstSkins$Journey" "greatest" "I", Cond.fieldLink RX0 32 "BurstSkins$Journey" "greatestAt" "I", Cond.fieldLink RX0 35 "BurstSkins$Journey" "hiss" "I", Cond.methodLink RX0 18 yX1_begin, Cond.methodLink RX4 185 yX0_follow, Cond.instanceMethod yX0_follow, Cond.selects RX0 yX0_follow yX0_follow, Cond.code yX0_follow cX0_follow 8 none, Cond.fieldLink RX0 51 "BurstSkins$Recipe" "doings" "I", Cond.fieldLink RX0 56 "BurstSkins$Recipe" "kinds" "[I", Cond.fieldLink RX0 60 "BurstSkins$Recipe" "firsts" "[I", Cond.fieldLink RX0 70 "BurstSkins$Recipe" "seconds" "[I", Cond.fieldLink RX0 42 "BurstSkins$Moment" "seconds" "I"]
def wsL_law_r25 : List Cond := [Cond.fieldLink RX0 48 "BurstSkins$Moment" "gone" "I", Cond.methodLink RX0 63 yX1_turnBy, Cond.methodLink RX0 67 yX1_prickBy, Cond.methodLink RX0 72 yX0_pass, Cond.instanceMethod yX0_pass, Cond.selects RX0 yX0_pass yX0_pass, Cond.code yX0_pass cX0_pass 5 none, Cond.fieldLink RX0 45 "BurstSkins$Moment" "steam" "I", Cond.methodLink RX0 38 yX1_pass, Cond.methodLink RX4 195 yX1_leastBrown, Cond.instanceMethod yX1_leastBrown, Cond.selects RX1 yX1_leastBrown yX1_leastBrown, Cond.code yX1_leastBrown cX1_leastBrown 1 (some .int), Cond.methodLink RX4 198 yX1_greatestBrown, Cond.instanceMethod yX1_greatestBrown, Cond.selects RX1 yX1_greatestBrown yX1_greatestBrown, Cond.code yX1_greatestBrown cX1_greatestBrown 1 (some .int), Cond.methodLink RX4 210 yX0_hissAhead, Cond.instanceMethod yX0_hissAhead, Cond.selects RX0 yX0_hissAhead yX0_hissAhead, Cond.code yX0_hissAhead cX0_hissAhead 1 (some .int), Cond.methodLink RL 74 yX5_run, Cond.instanceMethod yX5_run, Cond.selects RX5 yX5_run yX5_run]
def wsL_law_r26 : List Cond := [Cond.code yX5_run cX5_run 4 (some .int), Cond.fieldLink RX5 191 "BurstSkinsModel" "most" "I", Cond.fieldLink RX5 188 "BurstSkinsModel" "mostAt" "I", Cond.fieldLink RX5 185 "BurstSkinsModel" "hiss" "I", Cond.methodLink RX5 198 yX5_fresh, Cond.instanceMethod yX5_fresh, Cond.selects RX5 yX5_fresh yX5_fresh, Cond.code yX5_fresh cX5_fresh 2 none, Cond.methodLink RX5 201 yX5_plan, Cond.instanceMethod yX5_plan, Cond.selects RX5 yX5_plan yX5_plan, Cond.code yX5_plan cX5_plan 7 none, Cond.methodLink RX5 194 yX5_tried, Cond.instanceMethod yX5_tried, Cond.selects RX5 yX5_tried yX5_tried, Cond.code yX5_tried cX5_tried 6 none, Cond.methodLink RX5 204 yX5_brown, Cond.instanceMethod yX5_brown, Cond.selects RX5 yX5_brown yX5_brown, Cond.code yX5_brown cX5_brown 5 (some .int), Cond.methodLink RL 75 yX4_odds, Cond.instanceMethod yX4_odds, Cond.selects RX4 yX4_odds yX4_odds, Cond.code yX4_odds cX4_odds 4 (some .int)]
def wsL_law_r27 : List Cond := [Cond.methodLink RX4 213 yX4_chanceOf, Cond.instanceMethod yX4_chanceOf, Cond.selects RX4 yX4_chanceOf yX4_chanceOf, Cond.code yX4_chanceOf cX4_chanceOf 4 (some .int), Cond.methodLink RX4 217 yX4_staysWhole, Cond.instanceMethod yX4_staysWhole, Cond.selects RX4 yX4_staysWhole yX4_staysWhole, Cond.code yX4_staysWhole cX4_staysWhole 1 (some .boolean), Cond.methodLink RL 78 yX5_odds, Cond.instanceMethod yX5_odds, Cond.selects RX5 yX5_odds yX5_odds, Cond.code yX5_odds cX5_odds 5 (some .int), Cond.methodLink RL 79 yX4_pricks, Cond.instanceMethod yX4_pricks, Cond.selects RX4 yX4_pricks yX4_pricks, Cond.code yX4_pricks cX4_pricks 3 (some .int), Cond.methodLink RL 82 yX5_pricks, Cond.instanceMethod yX5_pricks, Cond.selects RX5 yX5_pricks yX5_pricks, Cond.code yX5_pricks cX5_pricks 3 (some .int), Cond.methodLink RX5 208 yX5_holdsAll, Cond.instanceMethod yX5_holdsAll, Cond.selects RX5 yX5_holdsAll yX5_holdsAll, Cond.code yX5_holdsAll cX5_holdsAll 6 (some .boolean)]
def wsL_law_r28 : List Cond := [Cond.methodLink RL 83 yX4_simmered, Cond.instanceMethod yX4_simmered, Cond.selects RX4 yX4_simmered yX4_simmered, Cond.code yX4_simmered cX4_simmered 5 (some .int), Cond.methodLink RX4 221 yX0_pass, Cond.methodLink RL 86 yX5_simmered, Cond.instanceMethod yX5_simmered, Cond.selects RX5 yX5_simmered yX5_simmered, Cond.code yX5_simmered cX5_simmered 4 (some .int), Cond.methodLink RL 87 yX4_planned, Cond.instanceMethod yX4_planned, Cond.selects RX4 yX4_planned yX4_planned, Cond.code yX4_planned cX4_planned 10 (some .int), Cond.methodLink RX4 225 yX0_turnEach, Cond.instanceMethod yX0_turnEach, Cond.selects RX0 yX0_turnEach yX0_turnEach, Cond.code yX0_turnEach cX0_turnEach 7 none, Cond.methodLink RL 91 yX5_planned, Cond.instanceMethod yX5_planned, Cond.selects RX5 yX5_planned yX5_planned, Cond.code yX5_planned cX5_planned 7 (some .int), Cond.constantLong RX5 211 (240), Cond.methodLink RL 92 yX4_heat, Cond.instanceMethod yX4_heat]
def wsL_law_r29 : List Cond := [Cond.selects RX4 yX4_heat yX4_heat, Cond.code yX4_heat cX4_heat 4 (some .int), Cond.methodLink RL 95 yX5_heat, Cond.instanceMethod yX5_heat, Cond.selects RX5 yX5_heat yX5_heat, Cond.code yX5_heat cX5_heat 4 (some .int), Cond.methodLink RL 96 yX4_even, Cond.instanceMethod yX4_even, Cond.selects RX4 yX4_even yX4_even, Cond.code yX4_even cX4_even 8 (some .int), Cond.methodLink RX4 229 yX4_leastHeat, Cond.instanceMethod yX4_leastHeat, Cond.selects RX4 yX4_leastHeat yX4_leastHeat, Cond.code yX4_leastHeat cX4_leastHeat 8 (some .int), Cond.fieldLink RX4 292 "BurstSkins" "CELLS_OF_ORDERS" "[I", Cond.methodLink RX4 260 Lib.Math.min.name, Cond.methodLink RL 99 yX5_even, Cond.instanceMethod yX5_even, Cond.selects RX5 yX5_even yX5_even, Cond.code yX5_even cX5_even 10 (some .int), Cond.methodLink RL 100 yX4_began, Cond.instanceMethod yX4_began, Cond.selects RX4 yX4_began yX4_began, Cond.code yX4_began cX4_began 4 (some .int)]
def wsL_law_r30 : List Cond := [Cond.methodLink RX4 233 yX4_noBeginning, Cond.static yX4_noBeginning, Cond.code yX4_noBeginning cX4_noBeginning 3 (some .boolean), Cond.methodLink RX4 236 yX4_timesOf, Cond.instanceMethod yX4_timesOf, Cond.selects RX4 yX4_timesOf yX4_timesOf, Cond.code yX4_timesOf cX4_timesOf 7 (some .int), Cond.methodLink RX4 295 yX4_changeBy, Cond.instanceMethod yX4_changeBy, Cond.selects RX4 yX4_changeBy yX4_changeBy, Cond.code yX4_changeBy cX4_changeBy 3 none, Cond.methodLink RX4 242 Lib.Math.max.name, Cond.methodLink RX4 299 yX3_heatFires, Cond.instanceMethod yX3_heatFires, Cond.selects RX3 yX3_heatFires yX3_heatFires, Cond.code yX3_heatFires cX3_heatFires 3 none, Cond.methodLink RX3 55 Lib.Math.min.name, Cond.methodLink RL 103 yX5_began, Cond.instanceMethod yX5_began, Cond.selects RX5 yX5_began yX5_began, Cond.code yX5_began cX5_began 4 (some .int), Cond.methodLink RX5 221 yX5_isCause, Cond.static yX5_isCause, Cond.code yX5_isCause cX5_isCause 3 (some .boolean)]
def wsL_law_r31 : List Cond := [Cond.constantLong RX5 217 (999), Cond.constantLong RX5 219 (4), Cond.methodLink RX5 225 yX5_begun, Cond.instanceMethod yX5_begun, Cond.selects RX5 yX5_begun yX5_begun, Cond.code yX5_begun cX5_begun 6 (some .int), Cond.methodLink RX5 213 yX5_goesSo, Cond.instanceMethod yX5_goesSo, Cond.selects RX5 yX5_goesSo yX5_goesSo, Cond.code yX5_goesSo cX5_goesSo 7 (some .boolean), Cond.methodLink RL 104 yX4_why, Cond.instanceMethod yX4_why, Cond.selects RX4 yX4_why yX4_why, Cond.code yX4_why cX4_why 9 (some .int), Cond.methodLink RX4 239 yX4_commonDivisor, Cond.static yX4_commonDivisor, Cond.code yX4_commonDivisor cX4_commonDivisor 6 (some .int), Cond.methodLink RL 108 yX5_why, Cond.instanceMethod yX5_why, Cond.selects RX5 yX5_why yX5_why, Cond.code yX5_why cX5_why 10 (some .int), Cond.methodLink RL 109 yX4_dried, Cond.instanceMethod yX4_dried, Cond.selects RX4 yX4_dried yX4_dried]
def wsL_law_r32 : List Cond := [Cond.code yX4_dried cX4_dried 5 (some .int), Cond.fieldLink RX4 254 "BurstSkins" "dryWeight" "I", Cond.methodLink RX4 247 yX4_noDrying, Cond.static yX4_noDrying, Cond.code yX4_noDrying cX4_noDrying 3 (some .boolean), Cond.methodLink RX4 250 yX4_dryUntil, Cond.instanceMethod yX4_dryUntil, Cond.selects RX4 yX4_dryUntil yX4_dryUntil, Cond.code yX4_dryUntil cX4_dryUntil 9 (some .int), Cond.methodLink RL 112 yX5_dried, Cond.instanceMethod yX5_dried, Cond.selects RX5 yX5_dried yX5_dried, Cond.code yX5_dried cX5_dried 9 (some .int), Cond.constantLong RX5 234 (200), Cond.methodLink RX5 231 yX5_isDry, Cond.static yX5_isDry, Cond.code yX5_isDry cX5_isDry 3 (some .boolean), Cond.constantLong RX5 229 (9999), Cond.methodLink RL 113 yX4_days, Cond.instanceMethod yX4_days, Cond.selects RX4 yX4_days yX4_days, Cond.code yX4_days cX4_days 6 (some .int), Cond.methodLink RL 116 yX5_days, Cond.instanceMethod yX5_days]
def wsL_law_r33 : List Cond := [Cond.selects RX5 yX5_days yX5_days, Cond.code yX5_days cX5_days 6 (some .int), Cond.methodLink RX5 236 yX5_dried, Cond.methodLink RL 117 yX4_test, Cond.instanceMethod yX4_test, Cond.selects RX4 yX4_test yX4_test, Cond.code yX4_test cX4_test 3 (some .int), Cond.fieldLink RX4 257 "BurstSkins" "tests" "I", Cond.methodLink RL 120 yX5_test, Cond.instanceMethod yX5_test, Cond.selects RX5 yX5_test yX5_test, Cond.code yX5_test cX5_test 3 (some .int), Cond.constantLong RX5 240 (30), Cond.fieldLink RX5 242 "BurstSkinsModel" "tests" "I", Cond.methodLink RL 121 yX4_holds, Cond.instanceMethod yX4_holds, Cond.selects RX4 yX4_holds yX4_holds, Cond.code yX4_holds cX4_holds 5 (some .int), Cond.methodLink RL 124 yX5_holds, Cond.instanceMethod yX5_holds, Cond.selects RX5 yX5_holds yX5_holds, Cond.code yX5_holds cX5_holds 6 (some .int), Cond.methodLink RL 125 yX4_tube, Cond.instanceMethod yX4_tube]
def wsL_law_r34 : List Cond := [Cond.selects RX4 yX4_tube yX4_tube, Cond.code yX4_tube cX4_tube 4 (some .int), Cond.methodLink RL 128 yX5_tube, Cond.instanceMethod yX5_tube, Cond.selects RX5 yX5_tube yX5_tube, Cond.code yX5_tube cX5_tube 4 (some .int), Cond.methodLink RL 129 yX4_mark, Cond.instanceMethod yX4_mark, Cond.selects RX4 yX4_mark yX4_mark, Cond.code yX4_mark cX4_mark 3 (some .int), Cond.constant RX4 263 (-1000000), Cond.methodLink RX4 264 yX4_markEnd, Cond.instanceMethod yX4_markEnd, Cond.selects RX4 yX4_markEnd yX4_markEnd, Cond.code yX4_markEnd cX4_markEnd 2 (some .int), Cond.fieldLink RX4 285 "BurstSkins" "traced" "J", Cond.methodLink RX4 267 yX4_markWhole, Cond.instanceMethod yX4_markWhole, Cond.selects RX4 yX4_markWhole yX4_markWhole, Cond.code yX4_markWhole cX4_markWhole 2 (some .int), Cond.constantLong RX4 302 (10), Cond.methodLink RX4 270 yX4_markSplit, Cond.instanceMethod yX4_markSplit, Cond.selects RX4 yX4_markSplit yX4_markSplit]
def wsL_law_r35 : List Cond := [Cond.code yX4_markSplit cX4_markSplit 2 (some .int), Cond.constantLong RX4 304 (100), Cond.methodLink RX4 273 yX4_markCurled, Cond.instanceMethod yX4_markCurled, Cond.selects RX4 yX4_markCurled yX4_markCurled, Cond.code yX4_markCurled cX4_markCurled 2 (some .int), Cond.constantLong RX4 306 (1000), Cond.methodLink RX4 276 yX4_markPale, Cond.instanceMethod yX4_markPale, Cond.selects RX4 yX4_markPale yX4_markPale, Cond.code yX4_markPale cX4_markPale 2 (some .int), Cond.constantLong RX4 308 (10000), Cond.methodLink RX4 279 yX4_markDried, Cond.instanceMethod yX4_markDried, Cond.selects RX4 yX4_markDried yX4_markDried, Cond.code yX4_markDried cX4_markDried 2 (some .int), Cond.constantLong RX4 310 (100000), Cond.methodLink RL 132 yX5_mark, Cond.instanceMethod yX5_mark, Cond.selects RX5 yX5_mark yX5_mark, Cond.code yX5_mark cX5_mark 4 (some .int), Cond.constantLong RX5 245 (5), Cond.constant RX5 247 (-1000000), Cond.fieldLink RX5 248 "BurstSkinsModel" "traced" "J"]
def wsL_law_r36 : List Cond := [Cond.constantLong RX5 252 (1000), Cond.constantLong RX5 254 (10000), Cond.constantLong RX5 256 (100000), Cond.methodLink RL 133 yX4_keep, Cond.instanceMethod yX4_keep, Cond.selects RX4 yX4_keep yX4_keep, Cond.code yX4_keep cX4_keep 2 (some .int), Cond.methodLink RX4 282 yX1_take, Cond.instanceMethod yX1_take, Cond.selects RX1 yX1_take yX1_take, Cond.code yX1_take cX1_take 3 none, Cond.methodLink RL 136 yX5_keep, Cond.instanceMethod yX5_keep, Cond.selects RX5 yX5_keep yX5_keep, Cond.code yX5_keep cX5_keep 2 (some .int), Cond.methodLink RX5 258 yX5_isImage, Cond.static yX5_isImage, Cond.code yX5_isImage cX5_isImage 1 (some .boolean), Cond.methodLink RX5 261 yX5_copies, Cond.instanceMethod yX5_copies, Cond.selects RX5 yX5_copies yX5_copies, Cond.code yX5_copies cX5_copies 4 none, Cond.methodLink RL 137 yX4_back, Cond.instanceMethod yX4_back]
def wsL_law_r37 : List Cond := [Cond.selects RX4 yX4_back yX4_back, Cond.code yX4_back cX4_back 2 (some .int), Cond.methodLink RL 140 yX5_back, Cond.instanceMethod yX5_back, Cond.selects RX5 yX5_back yX5_back, Cond.code yX5_back cX5_back 2 (some .int), Cond.methodLink RL 141 yX4_count, Cond.instanceMethod yX4_count, Cond.selects RX4 yX4_count yX4_count, Cond.code yX4_count cX4_count 2 (some .int), Cond.methodLink RL 144 yX5_count, Cond.instanceMethod yX5_count, Cond.selects RX5 yX5_count yX5_count, Cond.code yX5_count cX5_count 2 (some .int), Cond.methodLink RL 145 yX4_trace, Cond.instanceMethod yX4_trace, Cond.selects RX4 yX4_trace yX4_trace, Cond.code yX4_trace cX4_trace 1 (some .long), Cond.methodLink RL 149 yX5_trace, Cond.instanceMethod yX5_trace, Cond.selects RX5 yX5_trace yX5_trace, Cond.code yX5_trace cX5_trace 1 (some .long)]
def wsL_law : List Cond := (wsL_law_r1 ++ (wsL_law_r2 ++ (wsL_law_r3 ++ (wsL_law_r4 ++ (wsL_law_r5 ++ (wsL_law_r6 ++ (wsL_law_r7 ++ (wsL_law_r8 ++ (wsL_law_r9 ++ (wsL_law_r10 ++ (wsL_law_r11 ++ (wsL_law_r12 ++ (wsL_law_r13 ++ (wsL_law_r14 ++ (wsL_law_r15 ++ (wsL_law_r16 ++ (wsL_law_r17 ++ (wsL_law_r18 ++ (wsL_law_r19 ++ (wsL_law_r20 ++ (wsL_law_r21 ++ (wsL_law_r22 ++ (wsL_law_r23 ++ (wsL_law_r24 ++ (wsL_law_r25 ++ (wsL_law_r26 ++ (wsL_law_r27 ++ (wsL_law_r28 ++ (wsL_law_r29 ++ (wsL_law_r30 ++ (wsL_law_r31 ++ (wsL_law_r32 ++ (wsL_law_r33 ++ (wsL_law_r34 ++ (wsL_law_r35 ++ (wsL_law_r36 ++ wsL_law_r37)))))))))))))))))))))))))))))))))))) ++ wsX40 ++ wsX50 ++ wsX30 ++ wsX20 ++ wsX10 ++ wsX00 ++ ([] : List Cond)
theorem x_mem_r {big : List Cond} (ws : List Cond) (ps : List Nat) (h : ws.map some = ps.map (fun i => big[i]?)) : ∀ w ∈ ws, w ∈ big := by
  intro w hw
  have h1 : some w ∈ ps.map (fun i => big[i]?) := by rw [← h]; exact List.mem_map.mpr ⟨w, hw, rfl⟩
  obtain ⟨i, -, hi⟩ := List.mem_map.mp h1
  exact List.mem_of_getElem? hi
theorem x_mem_app {big a b : List Cond} (ha : ∀ w ∈ a, w ∈ big) (hb : ∀ w ∈ b, w ∈ big) : ∀ w ∈ a ++ b, w ∈ big := fun w h => (List.mem_append.mp h).elim (ha w) (hb w)
set_option maxRecDepth 20000 in
theorem wsL_in_wsL_law_r1 : ∀ w ∈ wsL_law_r1, w ∈ lw_tbl := x_mem_r _ [64, 65, 53, 759, 760, 58, 1118, 66, 67, 68, 69, 70, 71, 72, 73, 54, 281, 282, 283, 157, 158, 55, 284, 192] (by decide +kernel)
set_option maxRecDepth 20000 in
theorem wsL_in_wsL_law_r2 : ∀ w ∈ wsL_law_r2, w ∈ lw_tbl := x_mem_r _ [193, 56, 285, 247, 248, 57, 286, 287, 324, 288, 156, 289, 290, 291, 74, 75, 76, 77, 120, 123, 126, 78, 79, 80] (by decide +kernel)
set_option maxRecDepth 20000 in
theorem wsL_in_wsL_law_r3 : ∀ w ∈ wsL_law_r3, w ∈ lw_tbl := x_mem_r _ [81, 82, 86, 90, 94, 98, 102, 106, 109, 113, 117, 160, 161, 162, 163, 166, 195, 196, 197, 200, 202, 250, 251, 252] (by decide +kernel)
set_option maxRecDepth 20000 in
theorem wsL_in_wsL_law_r4 : ∀ w ∈ wsL_law_r4, w ∈ lw_tbl := x_mem_r _ [253, 255, 277, 278, 279, 280, 198, 204, 95, 206, 208, 211, 213, 216, 219, 221, 761, 762, 763, 764, 466, 770, 774, 775] (by decide +kernel)
set_option maxRecDepth 20000 in
theorem wsL_in_wsL_law_r5 : ∀ w ∈ wsL_law_r5, w ∈ lw_tbl := x_mem_r _ [776, 778, 779, 780, 784, 785, 786, 787, 789, 790, 765, 767, 27, 768, 325, 326, 327, 328, 165, 329, 330, 331, 332, 333] (by decide +kernel)
set_option maxRecDepth 20000 in
theorem wsL_in_wsL_law_r6 : ∀ w ∈ wsL_law_r6, w ∈ lw_tbl := x_mem_r _ [334, 335, 164, 845, 846, 847, 848, 849, 769, 850, 851, 852, 336, 337, 338, 339, 853, 854, 855, 856, 340, 341, 342, 343] (by decide +kernel)
set_option maxRecDepth 20000 in
theorem wsL_in_wsL_law_r7 : ∀ w ∈ wsL_law_r7, w ∈ lw_tbl := x_mem_r _ [344, 345, 346, 347, 169, 171, 172, 167, 168, 348, 349, 351, 0, 352, 170, 353, 355, 1, 356, 357, 358, 359, 360, 362] (by decide +kernel)
set_option maxRecDepth 20000 in
theorem wsL_in_wsL_law_r8 : ∀ w ∈ wsL_law_r8, w ∈ lw_tbl := x_mem_r _ [2, 363, 364, 365, 59, 366, 367, 368, 369, 370, 372, 3, 373, 374, 375, 376, 383, 385, 4, 386, 387, 388, 389, 60] (by decide +kernel)
set_option maxRecDepth 20000 in
theorem wsL_in_wsL_law_r9 : ∀ w ∈ wsL_law_r9, w ∈ lw_tbl := x_mem_r _ [390, 1119, 391, 392, 393, 394, 395, 1120, 397, 398, 399, 400, 401, 402, 403, 404, 405, 406, 61, 407, 408, 409, 410, 411] (by decide +kernel)
set_option maxRecDepth 20000 in
theorem wsL_in_wsL_law_r10 : ∀ w ∈ wsL_law_r10, w ∈ lw_tbl := x_mem_r _ [413, 414, 62, 415, 416, 417, 63, 418, 419, 420, 421, 422, 423, 424, 425, 426, 427, 428, 429, 431, 433, 435, 437, 5] (by decide +kernel)
set_option maxRecDepth 20000 in
theorem wsL_in_wsL_law_r11 : ∀ w ∈ wsL_law_r11, w ∈ lw_tbl := x_mem_r _ [438, 448, 450, 452, 440, 442, 6, 443, 444, 445, 446, 447, 454, 456, 7, 457, 84, 88, 92, 97, 100, 104, 108, 111] (by decide +kernel)
set_option maxRecDepth 20000 in
theorem wsL_in_wsL_law_r12 : ∀ w ∈ wsL_law_r12, w ∈ lw_tbl := x_mem_r _ [115, 458, 459, 460, 461, 462, 463, 464, 465, 857, 858, 859, 860, 777, 861, 863, 28, 864, 771, 792, 793, 772, 865, 867] (by decide +kernel)
set_option maxRecDepth 20000 in
theorem wsL_in_wsL_law_r13 : ∀ w ∈ wsL_law_r13, w ∈ lw_tbl := x_mem_r _ [29, 868, 869, 871, 30, 872, 873, 875, 31, 876, 877, 878, 879, 880, 881, 882, 883, 884, 885, 886, 887, 889, 32, 890] (by decide +kernel)
set_option maxRecDepth 20000 in
theorem wsL_in_wsL_law_r14 : ∀ w ∈ wsL_law_r14, w ∈ lw_tbl := x_mem_r _ [773, 891, 892, 893, 894, 896, 33, 897, 898, 899, 900, 902, 34, 903, 904, 906, 35, 907, 908, 910, 36, 911, 467, 468] (by decide +kernel)
set_option maxRecDepth 20000 in
theorem wsL_in_wsL_law_r15 : ∀ w ∈ wsL_law_r15, w ∈ lw_tbl := x_mem_r _ [469, 470, 83, 87, 91, 96, 99, 103, 107, 110, 114, 119, 471, 472, 473, 474, 912, 913, 914, 915, 916, 917, 919, 37] (by decide +kernel)
set_option maxRecDepth 20000 in
theorem wsL_in_wsL_law_r16 : ∀ w ∈ wsL_law_r16, w ∈ lw_tbl := x_mem_r _ [920, 475, 476, 477, 478, 122, 125, 128, 921, 922, 923, 924, 925, 479, 480, 481, 482, 483, 485, 8, 486, 218, 487, 488] (by decide +kernel)
set_option maxRecDepth 20000 in
theorem wsL_in_wsL_law_r17 : ∀ w ∈ wsL_law_r17, w ∈ lw_tbl := x_mem_r _ [489, 490, 491, 493, 9, 494, 495, 497, 10, 498, 499, 501, 11, 502, 85, 503, 504, 505, 506, 508, 12, 509, 510, 512] (by decide +kernel)
set_option maxRecDepth 20000 in
theorem wsL_in_wsL_law_r18 : ∀ w ∈ wsL_law_r18, w ∈ lw_tbl := x_mem_r _ [13, 513, 514, 515, 516, 517, 518, 93, 519, 521, 14, 522, 101, 523, 524, 525, 112, 116, 526, 527, 528, 529, 105, 89] (by decide +kernel)
set_option maxRecDepth 20000 in
theorem wsL_in_wsL_law_r19 : ∀ w ∈ wsL_law_r19, w ∈ lw_tbl := x_mem_r _ [531, 532, 533, 926, 927, 928, 929, 930, 931, 932, 934, 38, 935, 936, 938, 39, 939, 940, 942, 40, 943, 944, 946, 41] (by decide +kernel)
set_option maxRecDepth 20000 in
theorem wsL_in_wsL_law_r20 : ∀ w ∈ wsL_law_r20, w ∈ lw_tbl := x_mem_r _ [947, 534, 535, 536, 537, 948, 949, 950, 951, 952, 953, 538, 539, 540, 541, 199, 542, 543, 544, 545, 954, 955, 956, 957] (by decide +kernel)
set_option maxRecDepth 20000 in
theorem wsL_in_wsL_law_r21 : ∀ w ∈ wsL_law_r21, w ∈ lw_tbl := x_mem_r _ [958, 959, 961, 42, 962, 546, 547, 548, 549, 209, 550, 551, 552, 553, 963, 964, 965, 966, 967, 968, 970, 43, 971, 554] (by decide +kernel)
set_option maxRecDepth 20000 in
theorem wsL_in_wsL_law_r22 : ∀ w ∈ wsL_law_r22, w ∈ lw_tbl := x_mem_r _ [555, 556, 557, 212, 972, 973, 974, 975, 976, 558, 559, 560, 561, 201, 203, 562, 563, 564, 977, 978, 979, 980, 565, 566] (by decide +kernel)
set_option maxRecDepth 20000 in
theorem wsL_in_wsL_law_r23 : ∀ w ∈ wsL_law_r23, w ∈ lw_tbl := x_mem_r _ [567, 568, 205, 207, 215, 220, 223, 569, 981, 982, 983, 984, 570, 571, 572, 573, 985, 986, 987, 988, 574, 575, 576, 577] (by decide +kernel)
set_option maxRecDepth 20000 in
theorem wsL_in_wsL_law_r24 : ∀ w ∈ wsL_law_r24, w ∈ lw_tbl := x_mem_r _ [258, 256, 260, 262, 264, 578, 579, 580, 581, 210, 257, 259, 261, 263, 582, 583, 584, 585, 586, 118, 121, 124, 127, 214] (by decide +kernel)
set_option maxRecDepth 20000 in
theorem wsL_in_wsL_law_r25 : ∀ w ∈ wsL_law_r25, w ∈ lw_tbl := x_mem_r _ [217, 587, 588, 589, 590, 591, 592, 222, 593, 594, 595, 596, 597, 598, 599, 600, 601, 602, 603, 604, 605, 989, 990, 991] (by decide +kernel)
set_option maxRecDepth 20000 in
theorem wsL_in_wsL_law_r26 : ∀ w ∈ wsL_law_r26, w ∈ lw_tbl := x_mem_r _ [992, 781, 782, 783, 993, 995, 44, 996, 997, 999, 45, 1000, 1001, 1003, 46, 1004, 1005, 1007, 47, 1008, 606, 607, 608, 609] (by decide +kernel)
set_option maxRecDepth 20000 in
theorem wsL_in_wsL_law_r27 : ∀ w ∈ wsL_law_r27, w ∈ lw_tbl := x_mem_r _ [610, 612, 15, 613, 614, 616, 16, 617, 1009, 1010, 1011, 1012, 618, 619, 620, 621, 1013, 1014, 1015, 1016, 1017, 1019, 48, 1020] (by decide +kernel)
set_option maxRecDepth 20000 in
theorem wsL_in_wsL_law_r28 : ∀ w ∈ wsL_law_r28, w ∈ lw_tbl := x_mem_r _ [622, 623, 624, 625, 626, 1021, 1022, 1023, 1024, 627, 628, 629, 630, 631, 632, 633, 634, 1025, 1026, 1027, 1028, 1029, 635, 636] (by decide +kernel)
set_option maxRecDepth 20000 in
theorem wsL_in_wsL_law_r29 : ∀ w ∈ wsL_law_r29, w ∈ lw_tbl := x_mem_r _ [637, 638, 1030, 1031, 1032, 1033, 639, 640, 641, 642, 643, 645, 17, 646, 647, 649, 1034, 1035, 1036, 1037, 650, 651, 652, 653] (by decide +kernel)
set_option maxRecDepth 20000 in
theorem wsL_in_wsL_law_r30 : ∀ w ∈ wsL_law_r30, w ∈ lw_tbl := x_mem_r _ [654, 655, 656, 657, 659, 18, 660, 661, 663, 19, 664, 670, 665, 666, 667, 668, 669, 1038, 1039, 1040, 1041, 1042, 1043, 1044] (by decide +kernel)
set_option maxRecDepth 20000 in
theorem wsL_in_wsL_law_r31 : ∀ w ∈ wsL_law_r31, w ∈ lw_tbl := x_mem_r _ [1045, 1046, 1047, 1049, 49, 1050, 1051, 1053, 50, 1054, 671, 672, 673, 674, 675, 676, 677, 1055, 1056, 1057, 1058, 678, 679, 680] (by decide +kernel)
set_option maxRecDepth 20000 in
theorem wsL_in_wsL_law_r32 : ∀ w ∈ wsL_law_r32, w ∈ lw_tbl := x_mem_r _ [681, 294, 682, 683, 684, 685, 687, 20, 688, 1059, 1060, 1061, 1062, 1067, 1063, 1064, 1065, 1066, 689, 690, 691, 692, 1068, 1069] (by decide +kernel)
set_option maxRecDepth 20000 in
theorem wsL_in_wsL_law_r33 : ∀ w ∈ wsL_law_r33, w ∈ lw_tbl := x_mem_r _ [1070, 1071, 1072, 693, 694, 695, 696, 292, 1073, 1074, 1075, 1076, 1077, 788, 697, 698, 699, 700, 1078, 1079, 1080, 1081, 701, 702] (by decide +kernel)
set_option maxRecDepth 20000 in
theorem wsL_in_wsL_law_r34 : ∀ w ∈ wsL_law_r34, w ∈ lw_tbl := x_mem_r _ [703, 704, 1082, 1083, 1084, 1085, 705, 706, 707, 708, 709, 710, 712, 21, 713, 293, 714, 716, 22, 717, 718, 719, 721, 23] (by decide +kernel)
set_option maxRecDepth 20000 in
theorem wsL_in_wsL_law_r35 : ∀ w ∈ wsL_law_r35, w ∈ lw_tbl := x_mem_r _ [722, 723, 724, 726, 24, 727, 728, 729, 731, 25, 732, 733, 734, 736, 26, 737, 738, 1086, 1087, 1088, 1089, 1090, 1091, 791] (by decide +kernel)
set_option maxRecDepth 20000 in
theorem wsL_in_wsL_law_r36 : ∀ w ∈ wsL_law_r36, w ∈ lw_tbl := x_mem_r _ [1092, 1093, 1094, 739, 740, 741, 742, 743, 744, 745, 746, 1095, 1096, 1097, 1098, 1099, 1100, 1101, 1102, 1104, 51, 1105, 747, 748] (by decide +kernel)
set_option maxRecDepth 20000 in
theorem wsL_in_wsL_law_r37 : ∀ w ∈ wsL_law_r37, w ∈ lw_tbl := x_mem_r _ [749, 750, 1106, 1107, 1108, 1109, 751, 752, 753, 754, 1110, 1111, 1112, 1113, 755, 756, 757, 758, 1114, 1115, 1116, 1117] (by decide +kernel)
set_option maxRecDepth 20000 in
theorem wsL_in_wsX40 : ∀ w ∈ wsX40, w ∈ lw_tbl := x_mem_r _ [295, 297, 299, 301, 303, 305, 307, 309, 311, 313, 315, 317, 319, 321] (by decide +kernel)
set_option maxRecDepth 20000 in
theorem wsL_in_wsX50 : ∀ w ∈ wsX50, w ∈ lw_tbl := x_mem_r _ [794, 796, 798, 800, 802, 804, 806, 808, 810, 812, 814, 816, 818, 820, 822, 824, 826, 828, 830, 832, 834, 836, 838, 840, 842] (by decide +kernel)
set_option maxRecDepth 20000 in
theorem wsL_in_wsX30 : ∀ w ∈ wsX30, w ∈ lw_tbl := x_mem_r _ [129, 131, 133, 135, 137, 139, 141, 143, 145, 147, 149, 151, 153] (by decide +kernel)
set_option maxRecDepth 20000 in
theorem wsL_in_wsX20 : ∀ w ∈ wsX20, w ∈ lw_tbl := x_mem_r _ [173, 175, 177, 179, 181, 183, 185, 187, 189] (by decide +kernel)
set_option maxRecDepth 20000 in
theorem wsL_in_wsX10 : ∀ w ∈ wsX10, w ∈ lw_tbl := x_mem_r _ [224, 226, 228, 230, 232, 234, 236, 238, 240, 242, 244] (by decide +kernel)
set_option maxRecDepth 20000 in
theorem wsL_in_wsX00 : ∀ w ∈ wsX00, w ∈ lw_tbl := x_mem_r _ [265, 267, 269, 271, 273] (by decide +kernel)
theorem wsL_law_in : ∀ w ∈ wsL_law, w ∈ lw_tbl := x_mem_app (x_mem_app (x_mem_app (x_mem_app (x_mem_app (x_mem_app (x_mem_app (x_mem_app (wsL_in_wsL_law_r1) (x_mem_app (wsL_in_wsL_law_r2) (x_mem_app (wsL_in_wsL_law_r3) (x_mem_app (wsL_in_wsL_law_r4) (x_mem_app (wsL_in_wsL_law_r5) (x_mem_app (wsL_in_wsL_law_r6) (x_mem_app (wsL_in_wsL_law_r7) (x_mem_app (wsL_in_wsL_law_r8) (x_mem_app (wsL_in_wsL_law_r9) (x_mem_app (wsL_in_wsL_law_r10) (x_mem_app (wsL_in_wsL_law_r11) (x_mem_app (wsL_in_wsL_law_r12) (x_mem_app (wsL_in_wsL_law_r13) (x_mem_app (wsL_in_wsL_law_r14) (x_mem_app (wsL_in_wsL_law_r15) (x_mem_app (wsL_in_wsL_law_r16) (x_mem_app (wsL_in_wsL_law_r17) (x_mem_app (wsL_in_wsL_law_r18) (x_mem_app (wsL_in_wsL_law_r19) (x_mem_app (wsL_in_wsL_law_r20) (x_mem_app (wsL_in_wsL_law_r21) (x_mem_app (wsL_in_wsL_law_r22) (x_mem_app (wsL_in_wsL_law_r23) (x_mem_app (wsL_in_wsL_law_r24) (x_mem_app (wsL_in_wsL_law_r25) (x_mem_app (wsL_in_wsL_law_r26) (x_mem_app (wsL_in_wsL_law_r27) (x_mem_app (wsL_in_wsL_law_r28) (x_mem_app (wsL_in_wsL_law_r29) (x_mem_app (wsL_in_wsL_law_r30) (x_mem_app (wsL_in_wsL_law_r31) (x_mem_app (wsL_in_wsL_law_r32) (x_mem_app (wsL_in_wsL_law_r33) (x_mem_app (wsL_in_wsL_law_r34) (x_mem_app (wsL_in_wsL_law_r35) (x_mem_app (wsL_in_wsL_law_r36) (wsL_in_wsL_law_r37))))))))))))))))))))))))))))))))))))) (wsL_in_wsX40)) (wsL_in_wsX50)) (wsL_in_wsX30)) (wsL_in_wsX20)) (wsL_in_wsX10)) (wsL_in_wsX00)) (fun _ h => absurd h List.not_mem_nil)
theorem inlX0 : ∀ w ∈ wsX00, w ∈ wsL_law := fun _ h => List.mem_append_left _ (List.mem_append_right _ h)
theorem inX0 : ∀ w ∈ wsX00, w ∈ lw_tbl := fun w h => wsL_law_in w (inlX0 w h)
theorem inlX1 : ∀ w ∈ wsX10, w ∈ wsL_law := fun _ h => List.mem_append_left _ (List.mem_append_left _ (List.mem_append_right _ h))
theorem inX1 : ∀ w ∈ wsX10, w ∈ lw_tbl := fun w h => wsL_law_in w (inlX1 w h)
theorem inlX2 : ∀ w ∈ wsX20, w ∈ wsL_law := fun _ h => List.mem_append_left _ (List.mem_append_left _ (List.mem_append_left _ (List.mem_append_right _ h)))
theorem inX2 : ∀ w ∈ wsX20, w ∈ lw_tbl := fun w h => wsL_law_in w (inlX2 w h)
theorem inlX3 : ∀ w ∈ wsX30, w ∈ wsL_law := fun _ h => List.mem_append_left _ (List.mem_append_left _ (List.mem_append_left _ (List.mem_append_left _ (List.mem_append_right _ h))))
theorem inX3 : ∀ w ∈ wsX30, w ∈ lw_tbl := fun w h => wsL_law_in w (inlX3 w h)
theorem inlX4 : ∀ w ∈ wsX40, w ∈ wsL_law := fun _ h => List.mem_append_left _ (List.mem_append_left _ (List.mem_append_left _ (List.mem_append_left _ (List.mem_append_left _ (List.mem_append_left _ (List.mem_append_right _ h))))))
theorem inX4 : ∀ w ∈ wsX40, w ∈ lw_tbl := fun w h => wsL_law_in w (inlX4 w h)
theorem inlX5 : ∀ w ∈ wsX50, w ∈ wsL_law := fun _ h => List.mem_append_left _ (List.mem_append_left _ (List.mem_append_left _ (List.mem_append_left _ (List.mem_append_left _ (List.mem_append_right _ h)))))
theorem inX5 : ∀ w ∈ wsX50, w ∈ lw_tbl := fun w h => wsL_law_in w (inlX5 w h)
abbrev vwCl : List vw_C := [(RX0, TX0, 5), (RX1, TX1, 11), (RX2, TX2, 9), (RX3, TX3, 13), (RX4, TX4, 14), (RX5, TX5, 25)]
