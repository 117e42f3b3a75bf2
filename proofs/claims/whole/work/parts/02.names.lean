def RX : String := "WordTokenPasser"
def RT : String := "WordTokenPasser$Tree"
def RG : String := "WordTokenPasser$Grams"
def RS : String := "WordTokenPasser$Sounds"
def RQ : String := "WordTokenPasser$Search"
def RK : String := "WordTokenPasser$Token"
def RM : String := "WordTokenPasserModel"
def RJ : String := "java/util/Arrays"
def RA : String := "java/lang/Math"
def RL : String := "WordTokenPasserLaw"
def RO : String := "java/lang/Object"
def TX : u_T := fun k => match k with
  | 0 => ("WordTokenPasser", "tree", "LWordTokenPasser$Tree;", true)
  | 1 => ("WordTokenPasser", "grams", "LWordTokenPasser$Grams;", true)
  | 2 => ("WordTokenPasser", "sounds", "LWordTokenPasser$Sounds;", true)
  | 3 => ("WordTokenPasser", "search", "LWordTokenPasser$Search;", true)
  | _ => ("WordTokenPasser", "searched", "Z", false)
def tyX : Nat → FieldType := fun k => match k with
  | 0 => .object "WordTokenPasser$Tree"
  | 1 => .object "WordTokenPasser$Grams"
  | 2 => .object "WordTokenPasser$Sounds"
  | 3 => .object "WordTokenPasser$Search"
  | _ => .boolean
theorem nmX : ∀ a, a < 5 → ∀ b, b < 5 → a ≠ b → (TX a).2.1 ≠ (TX b).2.1 := by decide +kernel
theorem tyX_ok : ∀ k, k < 5 → parseFieldDescriptor (TX k).2.2.1 = some (tyX k) := by decide +kernel
def TT : u_T := fun k => match k with
  | 0 => ("WordTokenPasser$Tree", "phones", "[I", true)
  | 1 => ("WordTokenPasser$Tree", "parents", "[I", true)
  | 2 => ("WordTokenPasser$Tree", "children", "[I", true)
  | 3 => ("WordTokenPasser$Tree", "endings", "[Z", true)
  | 4 => ("WordTokenPasser$Tree", "size", "I", false)
  | _ => ("WordTokenPasser$Tree", "pronunciations", "I", false)
def tyT : Nat → FieldType := fun k => match k with
  | 0 => .array .int
  | 1 => .array .int
  | 2 => .array .int
  | 3 => .array .boolean
  | 4 => .int
  | _ => .int
theorem nmT : ∀ a, a < 6 → ∀ b, b < 6 → a ≠ b → (TT a).2.1 ≠ (TT b).2.1 := by decide +kernel
theorem tyT_ok : ∀ k, k < 6 → parseFieldDescriptor (TT k).2.2.1 = some (tyT k) := by decide +kernel
def TG : u_T := fun k => match k with
  | 0 => ("WordTokenPasser$Grams", "costs", "[I", true)
  | _ => ("WordTokenPasser$Grams", "backoffs", "[I", true)
def tyG : Nat → FieldType := fun k => match k with
  | 0 => .array .int
  | _ => .array .int
theorem nmG : ∀ a, a < 2 → ∀ b, b < 2 → a ≠ b → (TG a).2.1 ≠ (TG b).2.1 := by decide +kernel
theorem tyG_ok : ∀ k, k < 2 → parseFieldDescriptor (TG k).2.2.1 = some (tyG k) := by decide +kernel
def TS : u_T := fun k => match k with
  | 0 => ("WordTokenPasser$Sounds", "costs", "[I", true)
  | 1 => ("WordTokenPasser$Sounds", "holds", "[I", true)
  | 2 => ("WordTokenPasser$Sounds", "leaves", "[I", true)
  | _ => ("WordTokenPasser$Sounds", "count", "I", false)
def tyS : Nat → FieldType := fun k => match k with
  | 0 => .array .int
  | 1 => .array .int
  | 2 => .array .int
  | _ => .int
theorem nmS : ∀ a, a < 4 → ∀ b, b < 4 → a ≠ b → (TS a).2.1 ≠ (TS b).2.1 := by decide +kernel
theorem tyS_ok : ∀ k, k < 4 → parseFieldDescriptor (TS k).2.2.1 = some (tyS k) := by decide +kernel
def TQ : u_T := fun k => match k with
  | 0 => ("WordTokenPasser$Search", "tree", "LWordTokenPasser$Tree;", true)
  | 1 => ("WordTokenPasser$Search", "grams", "LWordTokenPasser$Grams;", true)
  | 2 => ("WordTokenPasser$Search", "sounds", "LWordTokenPasser$Sounds;", true)
  | 3 => ("WordTokenPasser$Search", "tokens", "[J", true)
  | 4 => ("WordTokenPasser$Search", "waiting", "[J", true)
  | 5 => ("WordTokenPasser$Search", "placeCounts", "[I", true)
  | 6 => ("WordTokenPasser$Search", "leastTokens", "[J", true)
  | _ => ("WordTokenPasser$Search", "wholePath", "J", false)
def tyQ : Nat → FieldType := fun k => match k with
  | 0 => .object "WordTokenPasser$Tree"
  | 1 => .object "WordTokenPasser$Grams"
  | 2 => .object "WordTokenPasser$Sounds"
  | 3 => .array .long
  | 4 => .array .long
  | 5 => .array .int
  | 6 => .array .long
  | _ => .long
theorem nmQ : ∀ a, a < 8 → ∀ b, b < 8 → a ≠ b → (TQ a).2.1 ≠ (TQ b).2.1 := by decide +kernel
theorem tyQ_ok : ∀ k, k < 8 → parseFieldDescriptor (TQ k).2.2.1 = some (tyQ k) := by decide +kernel
def TM : u_T := fun k => match k with
  | 0 => ("WordTokenPasserModel", "known", "[Z", false)
  | 1 => ("WordTokenPasserModel", "cost", "[I", false)
  | 2 => ("WordTokenPasserModel", "backoff", "[I", false)
  | 3 => ("WordTokenPasserModel", "many", "I", false)
  | 4 => ("WordTokenPasserModel", "word", "[I", false)
  | 5 => ("WordTokenPasserModel", "size", "[I", false)
  | 6 => ("WordTokenPasserModel", "phone", "[I", false)
  | 7 => ("WordTokenPasserModel", "hold", "[I", false)
  | 8 => ("WordTokenPasserModel", "leave", "[I", false)
  | 9 => ("WordTokenPasserModel", "frames", "I", false)
  | 10 => ("WordTokenPasserModel", "sound", "[I", false)
  | 11 => ("WordTokenPasserModel", "least", "[I", false)
  | 12 => ("WordTokenPasserModel", "done", "[I", false)
  | 13 => ("WordTokenPasserModel", "code", "[I", false)
  | 14 => ("WordTokenPasserModel", "next", "[I", false)
  | 15 => ("WordTokenPasserModel", "nextDone", "[I", false)
  | 16 => ("WordTokenPasserModel", "nextCode", "[I", false)
  | 17 => ("WordTokenPasserModel", "all", "I", false)
  | 18 => ("WordTokenPasserModel", "words", "I", false)
  | _ => ("WordTokenPasserModel", "which", "I", false)
def tyM : Nat → FieldType := fun k => match k with
  | 0 => .array .boolean
  | 1 => .array .int
  | 2 => .array .int
  | 3 => .int
  | 4 => .array .int
  | 5 => .array .int
  | 6 => .array .int
  | 7 => .array .int
  | 8 => .array .int
  | 9 => .int
  | 10 => .array .int
  | 11 => .array .int
  | 12 => .array .int
  | 13 => .array .int
  | 14 => .array .int
  | 15 => .array .int
  | 16 => .array .int
  | 17 => .int
  | 18 => .int
  | _ => .int
theorem nmM : ∀ a, a < 20 → ∀ b, b < 20 → a ≠ b → (TM a).2.1 ≠ (TM b).2.1 := by decide +kernel
theorem tyM_ok : ∀ k, k < 20 → parseFieldDescriptor (TM k).2.2.1 = some (tyM k) := by decide +kernel
abbrev vwCl : List vw_C := [(RX, TX, 5), (RT, TT, 6), (RG, TG, 2), (RS, TS, 4), (RQ, TQ, 8), (RM, TM, 20)]
abbrev cX_init : ByteArray := prog_1_method_1_code
def yX_init : MethodName := ⟨RX, "<init>", "()V"⟩
abbrev cT_init : ByteArray := prog_6_method_1_code
def yT_init : MethodName := ⟨RT, "<init>", "()V"⟩
abbrev cG_init : ByteArray := prog_2_method_1_code
def yG_init : MethodName := ⟨RG, "<init>", "()V"⟩
abbrev cJ_fillI : ByteArray := prog_10_method_103_code
def yJ_fillI : MethodName := ⟨RJ, "fill", "([II)V"⟩
abbrev cS_init : ByteArray := prog_4_method_1_code
def yS_init : MethodName := ⟨RS, "<init>", "()V"⟩
abbrev cQ_init : ByteArray := prog_3_method_1_code
def yQ_init : MethodName := ⟨RQ, "<init>", "(LWordTokenPasser$Tree;LWordTokenPasser$Grams;LWordTokenPasser$Sounds;)V"⟩
abbrev cX_say : ByteArray := prog_1_method_2_code
def yX_say : MethodName := ⟨RX, "say", "(IIII)I"⟩
abbrev cX_isWord : ByteArray := prog_1_method_19_code
def yX_isWord : MethodName := ⟨RX, "isWord", "(I)Z"⟩
abbrev cX_isPronunciation : ByteArray := prog_1_method_24_code
def yX_isPronunciation : MethodName := ⟨RX, "isPronunciation", "(III)Z"⟩
abbrev cX_isPhone : ByteArray := prog_1_method_21_code
def yX_isPhone : MethodName := ⟨RX, "isPhone", "(I)Z"⟩
abbrev cT_isFull : ByteArray := prog_6_method_3_code
def yT_isFull : MethodName := ⟨RT, "isFull", "()Z"⟩
abbrev cT_has : ByteArray := prog_6_method_7_code
def yT_has : MethodName := ⟨RT, "has", "(IIII)Z"⟩
abbrev cT_childOf : ByteArray := prog_6_method_9_code
def yT_childOf : MethodName := ⟨RT, "childOf", "(II)I"⟩
abbrev cT_endsWord : ByteArray := prog_6_method_6_code
def yT_endsWord : MethodName := ⟨RT, "endsWord", "(II)Z"⟩
abbrev cT_add : ByteArray := prog_6_method_8_code
def yT_add : MethodName := ⟨RT, "add", "(IIII)V"⟩
abbrev cT_grow : ByteArray := prog_6_method_10_code
def yT_grow : MethodName := ⟨RT, "grow", "(II)I"⟩
abbrev cT_size : ByteArray := prog_6_method_2_code
def yT_size : MethodName := ⟨RT, "size", "()I"⟩
abbrev cX_gram : ByteArray := prog_1_method_3_code
def yX_gram : MethodName := ⟨RX, "gram", "(IIIII)Z"⟩
abbrev cG_isGram : ByteArray := prog_2_method_2_code
def yG_isGram : MethodName := ⟨RG, "isGram", "(III)Z"⟩
abbrev cX_isWordOrEdge : ByteArray := prog_1_method_20_code
def yX_isWordOrEdge : MethodName := ⟨RX, "isWordOrEdge", "(I)Z"⟩
abbrev cX_isCost : ByteArray := prog_1_method_23_code
def yX_isCost : MethodName := ⟨RX, "isCost", "(I)Z"⟩
abbrev cG_put : ByteArray := prog_2_method_4_code
def yG_put : MethodName := ⟨RG, "put", "(IIIII)V"⟩
abbrev cG_slot : ByteArray := prog_2_method_8_code
def yG_slot : MethodName := ⟨RG, "slot", "(III)I"⟩
abbrev cX_ungram : ByteArray := prog_1_method_4_code
def yX_ungram : MethodName := ⟨RX, "ungram", "(III)Z"⟩
abbrev cG_has : ByteArray := prog_2_method_3_code
def yG_has : MethodName := ⟨RG, "has", "(III)Z"⟩
abbrev cG_remove : ByteArray := prog_2_method_5_code
def yG_remove : MethodName := ⟨RG, "remove", "(III)V"⟩
abbrev cX_after : ByteArray := prog_1_method_5_code
def yX_after : MethodName := ⟨RX, "after", "(III)I"⟩
abbrev cG_costAfter : ByteArray := prog_2_method_6_code
def yG_costAfter : MethodName := ⟨RG, "costAfter", "(III)I"⟩
abbrev cG_costOfTwo : ByteArray := prog_2_method_7_code
def yG_costOfTwo : MethodName := ⟨RG, "costOfTwo", "(II)I"⟩
abbrev cX_topology : ByteArray := prog_1_method_6_code
def yX_topology : MethodName := ⟨RX, "topology", "(III)Z"⟩
abbrev cX_isState : ByteArray := prog_1_method_22_code
def yX_isState : MethodName := ⟨RX, "isState", "(I)Z"⟩
abbrev cS_setTopology : ByteArray := prog_4_method_7_code
def yS_setTopology : MethodName := ⟨RS, "setTopology", "(III)V"⟩
abbrev cX_frame : ByteArray := prog_1_method_7_code
def yX_frame : MethodName := ⟨RX, "frame", "()I"⟩
abbrev cS_count : ByteArray := prog_4_method_2_code
def yS_count : MethodName := ⟨RS, "count", "()I"⟩
abbrev cS_addFrame : ByteArray := prog_4_method_3_code
def yS_addFrame : MethodName := ⟨RS, "addFrame", "()V"⟩
abbrev cX_drop : ByteArray := prog_1_method_8_code
def yX_drop : MethodName := ⟨RX, "drop", "()Z"⟩
abbrev cS_removeFrame : ByteArray := prog_4_method_4_code
def yS_removeFrame : MethodName := ⟨RS, "removeFrame", "()V"⟩
abbrev cX_sound : ByteArray := prog_1_method_9_code
def yX_sound : MethodName := ⟨RX, "sound", "(IIII)Z"⟩
abbrev cS_setCost : ByteArray := prog_4_method_5_code
def yS_setCost : MethodName := ⟨RS, "setCost", "(IIII)V"⟩
abbrev cX_frames : ByteArray := prog_1_method_10_code
def yX_frames : MethodName := ⟨RX, "frames", "()I"⟩
abbrev cX_nodes : ByteArray := prog_1_method_11_code
def yX_nodes : MethodName := ⟨RX, "nodes", "()I"⟩
abbrev cX_total : ByteArray := prog_1_method_12_code
def yX_total : MethodName := ⟨RX, "total", "()I"⟩
abbrev cX_searchOnce : ByteArray := prog_1_method_17_code
def yX_searchOnce : MethodName := ⟨RX, "searchOnce", "()LWordTokenPasser$Search;"⟩
abbrev cQ_run : ByteArray := prog_3_method_5_code
def yQ_run : MethodName := ⟨RQ, "run", "()V"⟩
abbrev cJ_fillL : ByteArray := prog_10_method_101_code
def yJ_fillL : MethodName := ⟨RJ, "fill", "([JJ)V"⟩
abbrev cQ_context : ByteArray := prog_3_method_12_code
def yQ_context : MethodName := ⟨RQ, "context", "(II)I"⟩
abbrev cQ_hear : ByteArray := prog_3_method_6_code
def yQ_hear : MethodName := ⟨RQ, "hear", "(II)V"⟩
abbrev cQ_place : ByteArray := prog_3_method_13_code
def yQ_place : MethodName := ⟨RQ, "place", "(III)I"⟩
abbrev cS_holdOf : ByteArray := prog_4_method_8_code
def yS_holdOf : MethodName := ⟨RS, "holdOf", "(I)I"⟩
abbrev cK_plusCost : ByteArray := prog_5_method_2_code
def yK_plusCost : MethodName := ⟨RK, "plusCost", "(JI)J"⟩
abbrev cQ_coming : ByteArray := prog_3_method_7_code
def yQ_coming : MethodName := ⟨RQ, "coming", "(III)J"⟩
abbrev cQ_leaving : ByteArray := prog_3_method_8_code
def yQ_leaving : MethodName := ⟨RQ, "leaving", "(III)J"⟩
abbrev cS_leaveOf : ByteArray := prog_4_method_9_code
def yS_leaveOf : MethodName := ⟨RS, "leaveOf", "(I)I"⟩
abbrev cT_parentOf : ByteArray := prog_6_method_5_code
def yT_parentOf : MethodName := ⟨RT, "parentOf", "(I)I"⟩
abbrev cA_min : ByteArray := prog_9_method_70_code
def yA_min : MethodName := ⟨RA, "min", "(JJ)J"⟩
abbrev cT_phoneOf : ByteArray := prog_6_method_4_code
def yT_phoneOf : MethodName := ⟨RT, "phoneOf", "(I)I"⟩
abbrev cS_costOf : ByteArray := prog_4_method_6_code
def yS_costOf : MethodName := ⟨RS, "costOf", "(III)I"⟩
abbrev cQ_endWords : ByteArray := prog_3_method_9_code
def yQ_endWords : MethodName := ⟨RQ, "endWords", "(I)V"⟩
abbrev cK_plusWord : ByteArray := prog_5_method_3_code
def yK_plusWord : MethodName := ⟨RK, "plusWord", "(JI)J"⟩
abbrev cQ_measure : ByteArray := prog_3_method_10_code
def yQ_measure : MethodName := ⟨RQ, "measure", "(I)V"⟩
abbrev cQ_endPath : ByteArray := prog_3_method_11_code
def yQ_endPath : MethodName := ⟨RQ, "endPath", "()V"⟩
abbrev cQ_wholePath : ByteArray := prog_3_method_4_code
def yQ_wholePath : MethodName := ⟨RQ, "wholePath", "()J"⟩
abbrev cK_costOf : ByteArray := prog_5_method_4_code
def yK_costOf : MethodName := ⟨RK, "costOf", "(J)I"⟩
abbrev cX_length : ByteArray := prog_1_method_13_code
def yX_length : MethodName := ⟨RX, "length", "()I"⟩
abbrev cK_countOf : ByteArray := prog_5_method_5_code
def yK_countOf : MethodName := ⟨RK, "countOf", "(J)I"⟩
abbrev cX_wordAt : ByteArray := prog_1_method_14_code
def yX_wordAt : MethodName := ⟨RX, "wordAt", "(I)I"⟩
abbrev cK_wordOf : ByteArray := prog_5_method_6_code
def yK_wordOf : MethodName := ⟨RK, "wordOf", "(JI)I"⟩
abbrev cX_live : ByteArray := prog_1_method_15_code
def yX_live : MethodName := ⟨RX, "live", "(I)I"⟩
abbrev cX_isFrameCount : ByteArray := prog_1_method_18_code
def yX_isFrameCount : MethodName := ⟨RX, "isFrameCount", "(I)Z"⟩
abbrev cQ_placesAfter : ByteArray := prog_3_method_2_code
def yQ_placesAfter : MethodName := ⟨RQ, "placesAfter", "(I)I"⟩
abbrev cX_best : ByteArray := prog_1_method_16_code
def yX_best : MethodName := ⟨RX, "best", "(I)I"⟩
abbrev cQ_leastAfter : ByteArray := prog_3_method_3_code
def yQ_leastAfter : MethodName := ⟨RQ, "leastAfter", "(I)J"⟩
abbrev cM_init : ByteArray := prog_8_method_1_code
def yM_init : MethodName := ⟨RM, "<init>", "()V"⟩
abbrev cM_nodes : ByteArray := prog_8_method_5_code
def yM_nodes : MethodName := ⟨RM, "nodes", "()I"⟩
abbrev cM_fresh : ByteArray := prog_8_method_4_code
def yM_fresh : MethodName := ⟨RM, "fresh", "(II)Z"⟩
abbrev cM_begins : ByteArray := prog_8_method_3_code
def yM_begins : MethodName := ⟨RM, "begins", "(III)Z"⟩
abbrev cM_say : ByteArray := prog_8_method_6_code
def yM_say : MethodName := ⟨RM, "say", "(IIII)I"⟩
abbrev cM_up : ByteArray := prog_8_method_2_code
def yM_up : MethodName := ⟨RM, "up", "(II)Z"⟩
abbrev cM_gram : ByteArray := prog_8_method_8_code
def yM_gram : MethodName := ⟨RM, "gram", "(IIIII)Z"⟩
abbrev cM_slot : ByteArray := prog_8_method_7_code
def yM_slot : MethodName := ⟨RM, "slot", "(III)I"⟩
abbrev cM_ungram : ByteArray := prog_8_method_9_code
def yM_ungram : MethodName := ⟨RM, "ungram", "(III)Z"⟩
abbrev cM_after : ByteArray := prog_8_method_12_code
def yM_after : MethodName := ⟨RM, "after", "(III)I"⟩
abbrev cM_afterOne : ByteArray := prog_8_method_11_code
def yM_afterOne : MethodName := ⟨RM, "afterOne", "(II)I"⟩
abbrev cM_back : ByteArray := prog_8_method_10_code
def yM_back : MethodName := ⟨RM, "back", "(I)I"⟩
abbrev cM_topology : ByteArray := prog_8_method_13_code
def yM_topology : MethodName := ⟨RM, "topology", "(III)Z"⟩
abbrev cM_frame : ByteArray := prog_8_method_14_code
def yM_frame : MethodName := ⟨RM, "frame", "()I"⟩
abbrev cM_drop : ByteArray := prog_8_method_15_code
def yM_drop : MethodName := ⟨RM, "drop", "()Z"⟩
abbrev cM_sound : ByteArray := prog_8_method_16_code
def yM_sound : MethodName := ⟨RM, "sound", "(IIII)Z"⟩
abbrev cM_frames : ByteArray := prog_8_method_17_code
def yM_frames : MethodName := ⟨RM, "frames", "()I"⟩
abbrev cM_total : ByteArray := prog_8_method_24_code
def yM_total : MethodName := ⟨RM, "total", "()I"⟩
abbrev cM_whole : ByteArray := prog_8_method_23_code
def yM_whole : MethodName := ⟨RM, "whole", "()V"⟩
abbrev cM_run : ByteArray := prog_8_method_22_code
def yM_run : MethodName := ⟨RM, "run", "(I)V"⟩
abbrev cM_clear : ByteArray := prog_8_method_19_code
def yM_clear : MethodName := ⟨RM, "clear", "()V"⟩
abbrev cM_come : ByteArray := prog_8_method_18_code
def yM_come : MethodName := ⟨RM, "come", "(IIIIIII)V"⟩
abbrev cM_take : ByteArray := prog_8_method_20_code
def yM_take : MethodName := ⟨RM, "take", "()V"⟩
abbrev cM_go : ByteArray := prog_8_method_21_code
def yM_go : MethodName := ⟨RM, "go", "(II)V"⟩
abbrev cM_length : ByteArray := prog_8_method_25_code
def yM_length : MethodName := ⟨RM, "length", "()I"⟩
abbrev cM_wordAt : ByteArray := prog_8_method_26_code
def yM_wordAt : MethodName := ⟨RM, "wordAt", "(I)I"⟩
abbrev cM_live : ByteArray := prog_8_method_27_code
def yM_live : MethodName := ⟨RM, "live", "(I)I"⟩
abbrev cM_best : ByteArray := prog_8_method_28_code
def yM_best : MethodName := ⟨RM, "best", "(I)I"⟩
/-- the tables' words that a call may hand on -/
def tb : List Cond := lw_tbl.filter goodWord
theorem tb_of {w : Cond} (h : w ∈ tables_1) (g : goodWord w = true) : w ∈ tb := List.mem_filter.mpr ⟨List.mem_append_right _ h, g⟩
theorem tb_sel {w : Cond} (h : w ∈ k2_sels lw_privs) (g : goodWord w = true) : w ∈ tb := List.mem_filter.mpr ⟨List.mem_append_left _ h, g⟩
theorem m_0 : Cond.initialized RL ∈ tb := tb_of (List.mem_append_left _ (List.mem_of_getElem? (i := 0) rfl)) rfl
theorem m_1 : Cond.initialized RX ∈ tb := tb_of (List.mem_append_left _ (List.mem_of_getElem? (i := 1) rfl)) rfl
theorem m_2 : Cond.initialized RT ∈ tb := tb_of (List.mem_append_left _ (List.mem_of_getElem? (i := 2) rfl)) rfl
theorem m_3 : Cond.initialized RG ∈ tb := tb_of (List.mem_append_left _ (List.mem_of_getElem? (i := 3) rfl)) rfl
theorem m_4 : Cond.initialized RJ ∈ tb := tb_of (List.mem_append_left _ (List.mem_of_getElem? (i := 4) rfl)) rfl
theorem m_5 : Cond.initialized RS ∈ tb := tb_of (List.mem_append_left _ (List.mem_of_getElem? (i := 5) rfl)) rfl
theorem m_6 : Cond.initialized RQ ∈ tb := tb_of (List.mem_append_left _ (List.mem_of_getElem? (i := 6) rfl)) rfl
theorem m_7 : Cond.initialized RM ∈ tb := tb_of (List.mem_append_left _ (List.mem_of_getElem? (i := 7) rfl)) rfl
theorem m_8 : Cond.initialized RK ∈ tb := tb_of (List.mem_append_left _ (List.mem_of_getElem? (i := 8) rfl)) rfl
theorem m_9 : Cond.initialized RA ∈ tb := tb_of (List.mem_append_left _ (List.mem_of_getElem? (i := 9) rfl)) rfl
theorem m_10 : Cond.classLink RL 7 RX ∈ tb := tb_of (List.mem_append_left _ (List.mem_of_getElem? (i := 10) rfl)) rfl
theorem m_11 : Cond.instantiable RX 5 ∈ tb := tb_of (List.mem_append_left _ (List.mem_of_getElem? (i := 11) rfl)) rfl
theorem m_12 : Cond.methodLink RL 9 yX_init ∈ tb := tb_of (List.mem_append_left _ (List.mem_of_getElem? (i := 12) rfl)) rfl
theorem m_13 : Cond.instanceMethod yX_init ∈ tb := tb_of (List.mem_append_left _ (List.mem_of_getElem? (i := 13) rfl)) rfl
theorem m_14 : Cond.code yX_init cX_init 1 none ∈ tb := tb_of (List.mem_append_left _ (List.mem_of_getElem? (i := 14) rfl)) rfl
theorem m_15 : Cond.methodLink RX 3 objectInit ∈ tb := tb_of (List.mem_append_left _ (List.mem_of_getElem? (i := 15) rfl)) rfl
theorem m_16 : Cond.instanceMethod objectInit ∈ tb := tb_of (List.mem_append_left _ (List.mem_of_getElem? (i := 16) rfl)) rfl
theorem m_17 : Cond.code objectInit ⟨#[0xb1]⟩ 1 none ∈ tb := tb_of (List.mem_append_left _ (List.mem_of_getElem? (i := 17) rfl)) rfl
theorem m_18 : Cond.classLink RX 9 RT ∈ tb := tb_of (List.mem_append_left _ (List.mem_of_getElem? (i := 18) rfl)) rfl
theorem m_19 : Cond.instantiable RT 6 ∈ tb := tb_of (List.mem_append_left _ (List.mem_of_getElem? (i := 19) rfl)) rfl
theorem m_20 : Cond.methodLink RX 11 yT_init ∈ tb := tb_of (List.mem_append_left _ (List.mem_of_getElem? (i := 20) rfl)) rfl
theorem m_21 : Cond.instanceMethod yT_init ∈ tb := tb_of (List.mem_append_left _ (List.mem_of_getElem? (i := 21) rfl)) rfl
theorem m_22 : Cond.code yT_init cT_init 1 none ∈ tb := tb_of (List.mem_append_left _ (List.mem_of_getElem? (i := 22) rfl)) rfl
theorem m_23 : Cond.methodLink RT 5 objectInit ∈ tb := tb_of (List.mem_append_left _ (List.mem_of_getElem? (i := 23) rfl)) rfl
theorem m_24 : Cond.fieldLink RT 11 "WordTokenPasser$Tree" "phones" "[I" ∈ tb := tb_of (List.mem_append_left _ (List.mem_of_getElem? (i := 24) rfl)) rfl
theorem m_25 : Cond.fieldLink RT 15 "WordTokenPasser$Tree" "parents" "[I" ∈ tb := tb_of (List.mem_append_left _ (List.mem_of_getElem? (i := 25) rfl)) rfl
theorem m_26 : Cond.fieldLink RT 18 "WordTokenPasser$Tree" "children" "[I" ∈ tb := tb_of (List.mem_append_left _ (List.mem_of_getElem? (i := 26) rfl)) rfl
theorem m_27 : Cond.fieldLink RT 21 "WordTokenPasser$Tree" "endings" "[Z" ∈ tb := tb_of (List.mem_append_left _ (List.mem_of_getElem? (i := 27) rfl)) rfl
theorem m_28 : Cond.fieldLink RT 25 "WordTokenPasser$Tree" "size" "I" ∈ tb := tb_of (List.mem_append_left _ (List.mem_of_getElem? (i := 28) rfl)) rfl
theorem m_29 : Cond.fieldLink RT 29 "WordTokenPasser$Tree" "pronunciations" "I" ∈ tb := tb_of (List.mem_append_left _ (List.mem_of_getElem? (i := 29) rfl)) rfl
theorem m_43 : Cond.arrayClass .int ∈ tb := tb_of (List.mem_append_left _ (List.mem_of_getElem? (i := 43) rfl)) rfl
theorem m_44 : Cond.arrayClass .boolean ∈ tb := tb_of (List.mem_append_left _ (List.mem_of_getElem? (i := 44) rfl)) rfl
theorem m_45 : Cond.classLink RX 16 RG ∈ tb := tb_of (List.mem_append_left _ (List.mem_of_getElem? (i := 45) rfl)) rfl
theorem m_46 : Cond.instantiable RG 2 ∈ tb := tb_of (List.mem_append_left _ (List.mem_of_getElem? (i := 46) rfl)) rfl
theorem m_47 : Cond.methodLink RX 18 yG_init ∈ tb := tb_of (List.mem_append_left _ (List.mem_of_getElem? (i := 47) rfl)) rfl
theorem m_48 : Cond.instanceMethod yG_init ∈ tb := tb_of (List.mem_append_left _ (List.mem_of_getElem? (i := 48) rfl)) rfl
theorem m_49 : Cond.code yG_init cG_init 1 none ∈ tb := tb_of (List.mem_append_left _ (List.mem_of_getElem? (i := 49) rfl)) rfl
theorem m_50 : Cond.methodLink RG 3 objectInit ∈ tb := tb_of (List.mem_append_left _ (List.mem_of_getElem? (i := 50) rfl)) rfl
theorem m_51 : Cond.methodLink RG 18 yJ_fillI ∈ tb := tb_of (List.mem_append_left _ (List.mem_of_getElem? (i := 51) rfl)) rfl
theorem m_52 : Cond.static yJ_fillI ∈ tb := tb_of (List.mem_append_left _ (List.mem_of_getElem? (i := 52) rfl)) rfl
theorem m_53 : Cond.code yJ_fillI cJ_fillI 4 none ∈ tb := tb_of (List.mem_append_left _ (List.mem_of_getElem? (i := 53) rfl)) rfl
theorem m_54 : Cond.fieldLink RG 11 "WordTokenPasser$Grams" "costs" "[I" ∈ tb := tb_of (List.mem_append_left _ (List.mem_of_getElem? (i := 54) rfl)) rfl
theorem m_55 : Cond.fieldLink RG 15 "WordTokenPasser$Grams" "backoffs" "[I" ∈ tb := tb_of (List.mem_append_left _ (List.mem_of_getElem? (i := 55) rfl)) rfl
theorem m_61 : Cond.classLink RX 23 RS ∈ tb := tb_of (List.mem_append_left _ (List.mem_of_getElem? (i := 61) rfl)) rfl
theorem m_62 : Cond.instantiable RS 4 ∈ tb := tb_of (List.mem_append_left _ (List.mem_of_getElem? (i := 62) rfl)) rfl
theorem m_63 : Cond.methodLink RX 25 yS_init ∈ tb := tb_of (List.mem_append_left _ (List.mem_of_getElem? (i := 63) rfl)) rfl
theorem m_64 : Cond.instanceMethod yS_init ∈ tb := tb_of (List.mem_append_left _ (List.mem_of_getElem? (i := 64) rfl)) rfl
theorem m_65 : Cond.code yS_init cS_init 1 none ∈ tb := tb_of (List.mem_append_left _ (List.mem_of_getElem? (i := 65) rfl)) rfl
theorem m_66 : Cond.methodLink RS 3 objectInit ∈ tb := tb_of (List.mem_append_left _ (List.mem_of_getElem? (i := 66) rfl)) rfl
theorem m_67 : Cond.fieldLink RS 11 "WordTokenPasser$Sounds" "costs" "[I" ∈ tb := tb_of (List.mem_append_left _ (List.mem_of_getElem? (i := 67) rfl)) rfl
theorem m_68 : Cond.fieldLink RS 15 "WordTokenPasser$Sounds" "holds" "[I" ∈ tb := tb_of (List.mem_append_left _ (List.mem_of_getElem? (i := 68) rfl)) rfl
theorem m_69 : Cond.fieldLink RS 18 "WordTokenPasser$Sounds" "leaves" "[I" ∈ tb := tb_of (List.mem_append_left _ (List.mem_of_getElem? (i := 69) rfl)) rfl
theorem m_70 : Cond.fieldLink RS 21 "WordTokenPasser$Sounds" "count" "I" ∈ tb := tb_of (List.mem_append_left _ (List.mem_of_getElem? (i := 70) rfl)) rfl
theorem m_80 : Cond.classLink RX 30 RQ ∈ tb := tb_of (List.mem_append_left _ (List.mem_of_getElem? (i := 80) rfl)) rfl
theorem m_81 : Cond.instantiable RQ 8 ∈ tb := tb_of (List.mem_append_left _ (List.mem_of_getElem? (i := 81) rfl)) rfl
theorem m_82 : Cond.methodLink RX 32 yQ_init ∈ tb := tb_of (List.mem_append_left _ (List.mem_of_getElem? (i := 82) rfl)) rfl
theorem m_83 : Cond.instanceMethod yQ_init ∈ tb := tb_of (List.mem_append_left _ (List.mem_of_getElem? (i := 83) rfl)) rfl
theorem m_84 : Cond.code yQ_init cQ_init 4 none ∈ tb := tb_of (List.mem_append_left _ (List.mem_of_getElem? (i := 84) rfl)) rfl
theorem m_85 : Cond.methodLink RQ 5 objectInit ∈ tb := tb_of (List.mem_append_left _ (List.mem_of_getElem? (i := 85) rfl)) rfl
theorem m_86 : Cond.constantLong RQ 41 (4611686018427387904) ∈ tb := tb_of (List.mem_append_left _ (List.mem_of_getElem? (i := 86) rfl)) rfl
theorem m_87 : Cond.fieldLink RQ 11 "WordTokenPasser$Search" "tree" "LWordTokenPasser$Tree;" ∈ tb := tb_of (List.mem_append_left _ (List.mem_of_getElem? (i := 87) rfl)) rfl
theorem m_88 : Cond.fieldLink RQ 15 "WordTokenPasser$Search" "grams" "LWordTokenPasser$Grams;" ∈ tb := tb_of (List.mem_append_left _ (List.mem_of_getElem? (i := 88) rfl)) rfl
theorem m_89 : Cond.fieldLink RQ 19 "WordTokenPasser$Search" "sounds" "LWordTokenPasser$Sounds;" ∈ tb := tb_of (List.mem_append_left _ (List.mem_of_getElem? (i := 89) rfl)) rfl
theorem m_90 : Cond.fieldLink RQ 25 "WordTokenPasser$Search" "tokens" "[J" ∈ tb := tb_of (List.mem_append_left _ (List.mem_of_getElem? (i := 90) rfl)) rfl
theorem m_91 : Cond.fieldLink RQ 29 "WordTokenPasser$Search" "waiting" "[J" ∈ tb := tb_of (List.mem_append_left _ (List.mem_of_getElem? (i := 91) rfl)) rfl
theorem m_92 : Cond.fieldLink RQ 32 "WordTokenPasser$Search" "placeCounts" "[I" ∈ tb := tb_of (List.mem_append_left _ (List.mem_of_getElem? (i := 92) rfl)) rfl
theorem m_93 : Cond.fieldLink RQ 36 "WordTokenPasser$Search" "leastTokens" "[J" ∈ tb := tb_of (List.mem_append_left _ (List.mem_of_getElem? (i := 93) rfl)) rfl
theorem m_94 : Cond.fieldLink RQ 43 "WordTokenPasser$Search" "wholePath" "J" ∈ tb := tb_of (List.mem_append_left _ (List.mem_of_getElem? (i := 94) rfl)) rfl
theorem m_112 : Cond.arrayClass .long ∈ tb := tb_of (List.mem_append_left _ (List.mem_of_getElem? (i := 112) rfl)) rfl
theorem m_113 : Cond.fieldLink RX 12 "WordTokenPasser" "tree" "LWordTokenPasser$Tree;" ∈ tb := tb_of (List.mem_append_left _ (List.mem_of_getElem? (i := 113) rfl)) rfl
theorem m_114 : Cond.fieldLink RX 19 "WordTokenPasser" "grams" "LWordTokenPasser$Grams;" ∈ tb := tb_of (List.mem_append_left _ (List.mem_of_getElem? (i := 114) rfl)) rfl
theorem m_115 : Cond.fieldLink RX 26 "WordTokenPasser" "sounds" "LWordTokenPasser$Sounds;" ∈ tb := tb_of (List.mem_append_left _ (List.mem_of_getElem? (i := 115) rfl)) rfl
theorem m_116 : Cond.fieldLink RX 35 "WordTokenPasser" "search" "LWordTokenPasser$Search;" ∈ tb := tb_of (List.mem_append_left _ (List.mem_of_getElem? (i := 116) rfl)) rfl
theorem m_117 : Cond.fieldLink RX 39 "WordTokenPasser" "searched" "Z" ∈ tb := tb_of (List.mem_append_left _ (List.mem_of_getElem? (i := 117) rfl)) rfl
theorem m_129 : Cond.methodLink RL 13 yX_say ∈ tb := tb_of (List.mem_append_left _ (List.mem_of_getElem? (i := 129) rfl)) rfl
theorem m_130 : Cond.instanceMethod yX_say ∈ tb := tb_of (List.mem_append_left _ (List.mem_of_getElem? (i := 130) rfl)) rfl
theorem m_131 : Cond.selects RX yX_say yX_say ∈ tb := tb_of (List.mem_append_left _ (List.mem_of_getElem? (i := 131) rfl)) rfl
theorem m_132 : Cond.code yX_say cX_say 5 (some .int) ∈ tb := tb_of (List.mem_append_left _ (List.mem_of_getElem? (i := 132) rfl)) rfl
theorem m_133 : Cond.methodLink RX 43 yX_isWord ∈ tb := tb_of (List.mem_append_left _ (List.mem_of_getElem? (i := 133) rfl)) rfl
theorem m_134 : Cond.static yX_isWord ∈ tb := tb_of (List.mem_append_left _ (List.mem_of_getElem? (i := 134) rfl)) rfl
theorem m_135 : Cond.code yX_isWord cX_isWord 1 (some .boolean) ∈ tb := tb_of (List.mem_append_left _ (List.mem_of_getElem? (i := 135) rfl)) rfl
theorem m_136 : Cond.methodLink RX 47 yX_isPronunciation ∈ tb := tb_of (List.mem_append_left _ (List.mem_of_getElem? (i := 136) rfl)) rfl
theorem m_137 : Cond.static yX_isPronunciation ∈ tb := tb_of (List.mem_append_left _ (List.mem_of_getElem? (i := 137) rfl)) rfl
theorem m_138 : Cond.code yX_isPronunciation cX_isPronunciation 3 (some .boolean) ∈ tb := tb_of (List.mem_append_left _ (List.mem_of_getElem? (i := 138) rfl)) rfl
theorem m_139 : Cond.methodLink RX 105 yX_isPhone ∈ tb := tb_of (List.mem_append_left _ (List.mem_of_getElem? (i := 139) rfl)) rfl
theorem m_140 : Cond.static yX_isPhone ∈ tb := tb_of (List.mem_append_left _ (List.mem_of_getElem? (i := 140) rfl)) rfl
theorem m_141 : Cond.code yX_isPhone cX_isPhone 1 (some .boolean) ∈ tb := tb_of (List.mem_append_left _ (List.mem_of_getElem? (i := 141) rfl)) rfl
theorem m_142 : Cond.methodLink RX 51 yT_isFull ∈ tb := tb_of (List.mem_append_left _ (List.mem_of_getElem? (i := 142) rfl)) rfl
theorem m_143 : Cond.instanceMethod yT_isFull ∈ tb := tb_of (List.mem_append_left _ (List.mem_of_getElem? (i := 143) rfl)) rfl
theorem m_144 : Cond.selects RT yT_isFull yT_isFull ∈ tb := tb_of (List.mem_append_left _ (List.mem_of_getElem? (i := 144) rfl)) rfl
theorem m_145 : Cond.code yT_isFull cT_isFull 1 (some .boolean) ∈ tb := tb_of (List.mem_append_left _ (List.mem_of_getElem? (i := 145) rfl)) rfl
theorem m_146 : Cond.methodLink RX 55 yT_has ∈ tb := tb_of (List.mem_append_left _ (List.mem_of_getElem? (i := 146) rfl)) rfl
theorem m_147 : Cond.instanceMethod yT_has ∈ tb := tb_of (List.mem_append_left _ (List.mem_of_getElem? (i := 147) rfl)) rfl
theorem m_148 : Cond.selects RT yT_has yT_has ∈ tb := tb_of (List.mem_append_left _ (List.mem_of_getElem? (i := 148) rfl)) rfl
theorem m_149 : Cond.code yT_has cT_has 6 (some .boolean) ∈ tb := tb_of (List.mem_append_left _ (List.mem_of_getElem? (i := 149) rfl)) rfl
theorem m_150 : Cond.methodLink RT 32 yT_childOf ∈ tb := tb_of (List.mem_append_left _ (List.mem_of_getElem? (i := 150) rfl)) rfl
theorem m_152 : Cond.instanceMethod yT_childOf ∈ tb := tb_of (List.mem_append_left _ (List.mem_of_getElem? (i := 152) rfl)) rfl
theorem m_153 : Cond.code yT_childOf cT_childOf 4 (some .int) ∈ tb := tb_of (List.mem_append_left _ (List.mem_of_getElem? (i := 153) rfl)) rfl
theorem m_154 : Cond.methodLink RT 36 yT_endsWord ∈ tb := tb_of (List.mem_append_left _ (List.mem_of_getElem? (i := 154) rfl)) rfl
theorem m_155 : Cond.instanceMethod yT_endsWord ∈ tb := tb_of (List.mem_append_left _ (List.mem_of_getElem? (i := 155) rfl)) rfl
theorem m_156 : Cond.selects RT yT_endsWord yT_endsWord ∈ tb := tb_of (List.mem_append_left _ (List.mem_of_getElem? (i := 156) rfl)) rfl
theorem m_157 : Cond.code yT_endsWord cT_endsWord 3 (some .boolean) ∈ tb := tb_of (List.mem_append_left _ (List.mem_of_getElem? (i := 157) rfl)) rfl
theorem m_158 : Cond.methodLink RX 59 yT_add ∈ tb := tb_of (List.mem_append_left _ (List.mem_of_getElem? (i := 158) rfl)) rfl
theorem m_159 : Cond.instanceMethod yT_add ∈ tb := tb_of (List.mem_append_left _ (List.mem_of_getElem? (i := 159) rfl)) rfl
theorem m_160 : Cond.selects RT yT_add yT_add ∈ tb := tb_of (List.mem_append_left _ (List.mem_of_getElem? (i := 160) rfl)) rfl
theorem m_161 : Cond.code yT_add cT_add 6 none ∈ tb := tb_of (List.mem_append_left _ (List.mem_of_getElem? (i := 161) rfl)) rfl
theorem m_162 : Cond.methodLink RT 40 yT_grow ∈ tb := tb_of (List.mem_append_left _ (List.mem_of_getElem? (i := 162) rfl)) rfl
theorem m_164 : Cond.instanceMethod yT_grow ∈ tb := tb_of (List.mem_append_left _ (List.mem_of_getElem? (i := 164) rfl)) rfl
theorem m_165 : Cond.code yT_grow cT_grow 4 (some .int) ∈ tb := tb_of (List.mem_append_left _ (List.mem_of_getElem? (i := 165) rfl)) rfl
theorem m_166 : Cond.methodLink RX 63 yT_size ∈ tb := tb_of (List.mem_append_left _ (List.mem_of_getElem? (i := 166) rfl)) rfl
theorem m_167 : Cond.instanceMethod yT_size ∈ tb := tb_of (List.mem_append_left _ (List.mem_of_getElem? (i := 167) rfl)) rfl
theorem m_168 : Cond.selects RT yT_size yT_size ∈ tb := tb_of (List.mem_append_left _ (List.mem_of_getElem? (i := 168) rfl)) rfl
theorem m_169 : Cond.code yT_size cT_size 1 (some .int) ∈ tb := tb_of (List.mem_append_left _ (List.mem_of_getElem? (i := 169) rfl)) rfl
theorem m_170 : Cond.methodLink RL 18 yX_gram ∈ tb := tb_of (List.mem_append_left _ (List.mem_of_getElem? (i := 170) rfl)) rfl
theorem m_171 : Cond.instanceMethod yX_gram ∈ tb := tb_of (List.mem_append_left _ (List.mem_of_getElem? (i := 171) rfl)) rfl
theorem m_172 : Cond.selects RX yX_gram yX_gram ∈ tb := tb_of (List.mem_append_left _ (List.mem_of_getElem? (i := 172) rfl)) rfl
theorem m_173 : Cond.code yX_gram cX_gram 6 (some .boolean) ∈ tb := tb_of (List.mem_append_left _ (List.mem_of_getElem? (i := 173) rfl)) rfl
theorem m_174 : Cond.methodLink RX 67 yG_isGram ∈ tb := tb_of (List.mem_append_left _ (List.mem_of_getElem? (i := 174) rfl)) rfl
theorem m_175 : Cond.static yG_isGram ∈ tb := tb_of (List.mem_append_left _ (List.mem_of_getElem? (i := 175) rfl)) rfl
theorem m_176 : Cond.code yG_isGram cG_isGram 3 (some .boolean) ∈ tb := tb_of (List.mem_append_left _ (List.mem_of_getElem? (i := 176) rfl)) rfl
theorem mn_177 : Cond.methodLinkNest RG 24 yX_isWordOrEdge RX ∈ lw_tbl := List.mem_append_right _ (List.mem_append_left _ (List.mem_of_getElem? (i := 177) rfl))
theorem m_178 : Cond.static yX_isWordOrEdge ∈ tb := tb_of (List.mem_append_left _ (List.mem_of_getElem? (i := 178) rfl)) rfl
theorem m_179 : Cond.code yX_isWordOrEdge cX_isWordOrEdge 1 (some .boolean) ∈ tb := tb_of (List.mem_append_left _ (List.mem_of_getElem? (i := 179) rfl)) rfl
theorem mn_180 : Cond.methodLinkNest RG 28 yX_isWord RX ∈ lw_tbl := List.mem_append_right _ (List.mem_append_left _ (List.mem_of_getElem? (i := 180) rfl))
theorem m_181 : Cond.methodLink RX 70 yX_isCost ∈ tb := tb_of (List.mem_append_left _ (List.mem_of_getElem? (i := 181) rfl)) rfl
theorem m_182 : Cond.static yX_isCost ∈ tb := tb_of (List.mem_append_left _ (List.mem_of_getElem? (i := 182) rfl)) rfl
theorem m_183 : Cond.code yX_isCost cX_isCost 1 (some .boolean) ∈ tb := tb_of (List.mem_append_left _ (List.mem_of_getElem? (i := 183) rfl)) rfl
theorem m_184 : Cond.methodLink RX 73 yG_put ∈ tb := tb_of (List.mem_append_left _ (List.mem_of_getElem? (i := 184) rfl)) rfl
theorem m_185 : Cond.instanceMethod yG_put ∈ tb := tb_of (List.mem_append_left _ (List.mem_of_getElem? (i := 185) rfl)) rfl
theorem m_186 : Cond.selects RG yG_put yG_put ∈ tb := tb_of (List.mem_append_left _ (List.mem_of_getElem? (i := 186) rfl)) rfl
theorem m_187 : Cond.code yG_put cG_put 6 none ∈ tb := tb_of (List.mem_append_left _ (List.mem_of_getElem? (i := 187) rfl)) rfl
theorem m_188 : Cond.methodLink RG 31 yG_slot ∈ tb := tb_of (List.mem_append_left _ (List.mem_of_getElem? (i := 188) rfl)) rfl
theorem m_189 : Cond.static yG_slot ∈ tb := tb_of (List.mem_append_left _ (List.mem_of_getElem? (i := 189) rfl)) rfl
theorem m_190 : Cond.code yG_slot cG_slot 3 (some .int) ∈ tb := tb_of (List.mem_append_left _ (List.mem_of_getElem? (i := 190) rfl)) rfl
theorem m_191 : Cond.methodLink RL 23 yX_ungram ∈ tb := tb_of (List.mem_append_left _ (List.mem_of_getElem? (i := 191) rfl)) rfl
theorem m_192 : Cond.instanceMethod yX_ungram ∈ tb := tb_of (List.mem_append_left _ (List.mem_of_getElem? (i := 192) rfl)) rfl
theorem m_193 : Cond.selects RX yX_ungram yX_ungram ∈ tb := tb_of (List.mem_append_left _ (List.mem_of_getElem? (i := 193) rfl)) rfl
theorem m_194 : Cond.code yX_ungram cX_ungram 4 (some .boolean) ∈ tb := tb_of (List.mem_append_left _ (List.mem_of_getElem? (i := 194) rfl)) rfl
theorem m_195 : Cond.methodLink RX 77 yG_has ∈ tb := tb_of (List.mem_append_left _ (List.mem_of_getElem? (i := 195) rfl)) rfl
theorem m_196 : Cond.instanceMethod yG_has ∈ tb := tb_of (List.mem_append_left _ (List.mem_of_getElem? (i := 196) rfl)) rfl
theorem m_197 : Cond.selects RG yG_has yG_has ∈ tb := tb_of (List.mem_append_left _ (List.mem_of_getElem? (i := 197) rfl)) rfl
theorem m_198 : Cond.code yG_has cG_has 4 (some .boolean) ∈ tb := tb_of (List.mem_append_left _ (List.mem_of_getElem? (i := 198) rfl)) rfl
theorem m_199 : Cond.methodLink RX 79 yG_remove ∈ tb := tb_of (List.mem_append_left _ (List.mem_of_getElem? (i := 199) rfl)) rfl
theorem m_200 : Cond.instanceMethod yG_remove ∈ tb := tb_of (List.mem_append_left _ (List.mem_of_getElem? (i := 200) rfl)) rfl
theorem m_201 : Cond.selects RG yG_remove yG_remove ∈ tb := tb_of (List.mem_append_left _ (List.mem_of_getElem? (i := 201) rfl)) rfl
theorem m_202 : Cond.code yG_remove cG_remove 4 none ∈ tb := tb_of (List.mem_append_left _ (List.mem_of_getElem? (i := 202) rfl)) rfl
theorem m_203 : Cond.methodLink RL 28 yX_after ∈ tb := tb_of (List.mem_append_left _ (List.mem_of_getElem? (i := 203) rfl)) rfl
theorem m_204 : Cond.instanceMethod yX_after ∈ tb := tb_of (List.mem_append_left _ (List.mem_of_getElem? (i := 204) rfl)) rfl
theorem m_205 : Cond.selects RX yX_after yX_after ∈ tb := tb_of (List.mem_append_left _ (List.mem_of_getElem? (i := 205) rfl)) rfl
theorem m_206 : Cond.code yX_after cX_after 4 (some .int) ∈ tb := tb_of (List.mem_append_left _ (List.mem_of_getElem? (i := 206) rfl)) rfl
theorem m_207 : Cond.methodLink RX 83 yX_isWordOrEdge ∈ tb := tb_of (List.mem_append_left _ (List.mem_of_getElem? (i := 207) rfl)) rfl
theorem m_208 : Cond.methodLink RX 86 yG_costAfter ∈ tb := tb_of (List.mem_append_left _ (List.mem_of_getElem? (i := 208) rfl)) rfl
theorem m_209 : Cond.instanceMethod yG_costAfter ∈ tb := tb_of (List.mem_append_left _ (List.mem_of_getElem? (i := 209) rfl)) rfl
theorem m_210 : Cond.selects RG yG_costAfter yG_costAfter ∈ tb := tb_of (List.mem_append_left _ (List.mem_of_getElem? (i := 210) rfl)) rfl
theorem m_211 : Cond.code yG_costAfter cG_costAfter 6 (some .int) ∈ tb := tb_of (List.mem_append_left _ (List.mem_of_getElem? (i := 211) rfl)) rfl
theorem m_212 : Cond.methodLink RG 35 yG_costOfTwo ∈ tb := tb_of (List.mem_append_left _ (List.mem_of_getElem? (i := 212) rfl)) rfl
theorem m_214 : Cond.instanceMethod yG_costOfTwo ∈ tb := tb_of (List.mem_append_left _ (List.mem_of_getElem? (i := 214) rfl)) rfl
theorem m_215 : Cond.code yG_costOfTwo cG_costOfTwo 5 (some .int) ∈ tb := tb_of (List.mem_append_left _ (List.mem_of_getElem? (i := 215) rfl)) rfl
theorem m_216 : Cond.methodLink RL 33 yX_topology ∈ tb := tb_of (List.mem_append_left _ (List.mem_of_getElem? (i := 216) rfl)) rfl
theorem m_217 : Cond.instanceMethod yX_topology ∈ tb := tb_of (List.mem_append_left _ (List.mem_of_getElem? (i := 217) rfl)) rfl
theorem m_218 : Cond.selects RX yX_topology yX_topology ∈ tb := tb_of (List.mem_append_left _ (List.mem_of_getElem? (i := 218) rfl)) rfl
theorem m_219 : Cond.code yX_topology cX_topology 4 (some .boolean) ∈ tb := tb_of (List.mem_append_left _ (List.mem_of_getElem? (i := 219) rfl)) rfl
theorem m_220 : Cond.methodLink RX 90 yX_isState ∈ tb := tb_of (List.mem_append_left _ (List.mem_of_getElem? (i := 220) rfl)) rfl
theorem m_221 : Cond.static yX_isState ∈ tb := tb_of (List.mem_append_left _ (List.mem_of_getElem? (i := 221) rfl)) rfl
theorem m_222 : Cond.code yX_isState cX_isState 1 (some .boolean) ∈ tb := tb_of (List.mem_append_left _ (List.mem_of_getElem? (i := 222) rfl)) rfl
theorem m_223 : Cond.methodLink RX 93 yS_setTopology ∈ tb := tb_of (List.mem_append_left _ (List.mem_of_getElem? (i := 223) rfl)) rfl
theorem m_224 : Cond.instanceMethod yS_setTopology ∈ tb := tb_of (List.mem_append_left _ (List.mem_of_getElem? (i := 224) rfl)) rfl
theorem m_225 : Cond.selects RS yS_setTopology yS_setTopology ∈ tb := tb_of (List.mem_append_left _ (List.mem_of_getElem? (i := 225) rfl)) rfl
theorem m_226 : Cond.code yS_setTopology cS_setTopology 4 none ∈ tb := tb_of (List.mem_append_left _ (List.mem_of_getElem? (i := 226) rfl)) rfl
theorem m_227 : Cond.methodLink RL 37 yX_frame ∈ tb := tb_of (List.mem_append_left _ (List.mem_of_getElem? (i := 227) rfl)) rfl
theorem m_228 : Cond.instanceMethod yX_frame ∈ tb := tb_of (List.mem_append_left _ (List.mem_of_getElem? (i := 228) rfl)) rfl
theorem m_229 : Cond.selects RX yX_frame yX_frame ∈ tb := tb_of (List.mem_append_left _ (List.mem_of_getElem? (i := 229) rfl)) rfl
theorem m_230 : Cond.code yX_frame cX_frame 1 (some .int) ∈ tb := tb_of (List.mem_append_left _ (List.mem_of_getElem? (i := 230) rfl)) rfl
theorem m_231 : Cond.methodLink RX 96 yS_count ∈ tb := tb_of (List.mem_append_left _ (List.mem_of_getElem? (i := 231) rfl)) rfl
theorem m_232 : Cond.instanceMethod yS_count ∈ tb := tb_of (List.mem_append_left _ (List.mem_of_getElem? (i := 232) rfl)) rfl
theorem m_233 : Cond.selects RS yS_count yS_count ∈ tb := tb_of (List.mem_append_left _ (List.mem_of_getElem? (i := 233) rfl)) rfl
theorem m_234 : Cond.code yS_count cS_count 1 (some .int) ∈ tb := tb_of (List.mem_append_left _ (List.mem_of_getElem? (i := 234) rfl)) rfl
theorem m_235 : Cond.methodLink RX 99 yS_addFrame ∈ tb := tb_of (List.mem_append_left _ (List.mem_of_getElem? (i := 235) rfl)) rfl
theorem m_236 : Cond.instanceMethod yS_addFrame ∈ tb := tb_of (List.mem_append_left _ (List.mem_of_getElem? (i := 236) rfl)) rfl
theorem m_237 : Cond.selects RS yS_addFrame yS_addFrame ∈ tb := tb_of (List.mem_append_left _ (List.mem_of_getElem? (i := 237) rfl)) rfl
theorem m_238 : Cond.code yS_addFrame cS_addFrame 2 none ∈ tb := tb_of (List.mem_append_left _ (List.mem_of_getElem? (i := 238) rfl)) rfl
theorem m_239 : Cond.methodLink RL 42 yX_drop ∈ tb := tb_of (List.mem_append_left _ (List.mem_of_getElem? (i := 239) rfl)) rfl
theorem m_240 : Cond.instanceMethod yX_drop ∈ tb := tb_of (List.mem_append_right _ (List.mem_append_left _ (List.mem_of_getElem? (i := 0) rfl))) rfl
theorem m_241 : Cond.selects RX yX_drop yX_drop ∈ tb := tb_of (List.mem_append_right _ (List.mem_append_left _ (List.mem_of_getElem? (i := 1) rfl))) rfl
theorem m_242 : Cond.code yX_drop cX_drop 1 (some .boolean) ∈ tb := tb_of (List.mem_append_right _ (List.mem_append_left _ (List.mem_of_getElem? (i := 2) rfl))) rfl
theorem m_243 : Cond.methodLink RX 102 yS_removeFrame ∈ tb := tb_of (List.mem_append_right _ (List.mem_append_left _ (List.mem_of_getElem? (i := 3) rfl))) rfl
theorem m_244 : Cond.instanceMethod yS_removeFrame ∈ tb := tb_of (List.mem_append_right _ (List.mem_append_left _ (List.mem_of_getElem? (i := 4) rfl))) rfl
theorem m_245 : Cond.selects RS yS_removeFrame yS_removeFrame ∈ tb := tb_of (List.mem_append_right _ (List.mem_append_left _ (List.mem_of_getElem? (i := 5) rfl))) rfl
theorem m_246 : Cond.code yS_removeFrame cS_removeFrame 1 none ∈ tb := tb_of (List.mem_append_right _ (List.mem_append_left _ (List.mem_of_getElem? (i := 6) rfl))) rfl
theorem m_247 : Cond.methodLink RL 47 yX_sound ∈ tb := tb_of (List.mem_append_right _ (List.mem_append_left _ (List.mem_of_getElem? (i := 7) rfl))) rfl
theorem m_248 : Cond.instanceMethod yX_sound ∈ tb := tb_of (List.mem_append_right _ (List.mem_append_left _ (List.mem_of_getElem? (i := 8) rfl))) rfl
theorem m_249 : Cond.selects RX yX_sound yX_sound ∈ tb := tb_of (List.mem_append_right _ (List.mem_append_left _ (List.mem_of_getElem? (i := 9) rfl))) rfl
theorem m_250 : Cond.code yX_sound cX_sound 5 (some .boolean) ∈ tb := tb_of (List.mem_append_right _ (List.mem_append_left _ (List.mem_of_getElem? (i := 10) rfl))) rfl
theorem m_251 : Cond.methodLink RX 108 yS_setCost ∈ tb := tb_of (List.mem_append_right _ (List.mem_append_left _ (List.mem_of_getElem? (i := 11) rfl))) rfl
theorem m_252 : Cond.instanceMethod yS_setCost ∈ tb := tb_of (List.mem_append_right _ (List.mem_append_left _ (List.mem_of_getElem? (i := 12) rfl))) rfl
theorem m_253 : Cond.selects RS yS_setCost yS_setCost ∈ tb := tb_of (List.mem_append_right _ (List.mem_append_left _ (List.mem_of_getElem? (i := 13) rfl))) rfl
theorem m_254 : Cond.code yS_setCost cS_setCost 5 none ∈ tb := tb_of (List.mem_append_right _ (List.mem_append_left _ (List.mem_of_getElem? (i := 14) rfl))) rfl
theorem m_255 : Cond.methodLink RL 52 yX_frames ∈ tb := tb_of (List.mem_append_right _ (List.mem_append_left _ (List.mem_of_getElem? (i := 15) rfl))) rfl
theorem m_256 : Cond.instanceMethod yX_frames ∈ tb := tb_of (List.mem_append_right _ (List.mem_append_left _ (List.mem_of_getElem? (i := 16) rfl))) rfl
theorem m_257 : Cond.selects RX yX_frames yX_frames ∈ tb := tb_of (List.mem_append_right _ (List.mem_append_left _ (List.mem_of_getElem? (i := 17) rfl))) rfl
theorem m_258 : Cond.code yX_frames cX_frames 1 (some .int) ∈ tb := tb_of (List.mem_append_right _ (List.mem_append_left _ (List.mem_of_getElem? (i := 18) rfl))) rfl
theorem m_259 : Cond.methodLink RL 56 yX_nodes ∈ tb := tb_of (List.mem_append_right _ (List.mem_append_left _ (List.mem_of_getElem? (i := 19) rfl))) rfl
theorem m_260 : Cond.instanceMethod yX_nodes ∈ tb := tb_of (List.mem_append_right _ (List.mem_append_left _ (List.mem_of_getElem? (i := 20) rfl))) rfl
theorem m_261 : Cond.selects RX yX_nodes yX_nodes ∈ tb := tb_of (List.mem_append_right _ (List.mem_append_left _ (List.mem_of_getElem? (i := 21) rfl))) rfl
theorem m_262 : Cond.code yX_nodes cX_nodes 1 (some .int) ∈ tb := tb_of (List.mem_append_right _ (List.mem_append_left _ (List.mem_of_getElem? (i := 22) rfl))) rfl
theorem m_263 : Cond.methodLink RL 60 yX_total ∈ tb := tb_of (List.mem_append_right _ (List.mem_append_left _ (List.mem_of_getElem? (i := 23) rfl))) rfl
theorem m_264 : Cond.instanceMethod yX_total ∈ tb := tb_of (List.mem_append_right _ (List.mem_append_left _ (List.mem_of_getElem? (i := 24) rfl))) rfl
theorem m_265 : Cond.selects RX yX_total yX_total ∈ tb := tb_of (List.mem_append_right _ (List.mem_append_left _ (List.mem_of_getElem? (i := 25) rfl))) rfl
theorem m_266 : Cond.code yX_total cX_total 1 (some .int) ∈ tb := tb_of (List.mem_append_right _ (List.mem_append_left _ (List.mem_of_getElem? (i := 26) rfl))) rfl
theorem m_267 : Cond.methodLink RX 111 yX_searchOnce ∈ tb := tb_of (List.mem_append_right _ (List.mem_append_left _ (List.mem_of_getElem? (i := 27) rfl))) rfl
theorem m_269 : Cond.instanceMethod yX_searchOnce ∈ tb := tb_of (List.mem_append_right _ (List.mem_append_left _ (List.mem_of_getElem? (i := 29) rfl))) rfl
theorem m_270 : Cond.code yX_searchOnce cX_searchOnce 1 (some (.object "WordTokenPasser$Search")) ∈ tb := tb_of (List.mem_append_right _ (List.mem_append_left _ (List.mem_of_getElem? (i := 30) rfl))) rfl
theorem m_271 : Cond.methodLink RX 143 yQ_run ∈ tb := tb_of (List.mem_append_right _ (List.mem_append_left _ (List.mem_of_getElem? (i := 31) rfl))) rfl
theorem m_272 : Cond.instanceMethod yQ_run ∈ tb := tb_of (List.mem_append_right _ (List.mem_append_left _ (List.mem_of_getElem? (i := 32) rfl))) rfl
theorem m_273 : Cond.selects RQ yQ_run yQ_run ∈ tb := tb_of (List.mem_append_right _ (List.mem_append_left _ (List.mem_of_getElem? (i := 33) rfl))) rfl
theorem m_274 : Cond.code yQ_run cQ_run 3 none ∈ tb := tb_of (List.mem_append_right _ (List.mem_append_left _ (List.mem_of_getElem? (i := 34) rfl))) rfl
theorem m_275 : Cond.methodLink RQ 47 yJ_fillL ∈ tb := tb_of (List.mem_append_right _ (List.mem_append_left _ (List.mem_of_getElem? (i := 35) rfl))) rfl
theorem m_276 : Cond.static yJ_fillL ∈ tb := tb_of (List.mem_append_right _ (List.mem_append_left _ (List.mem_of_getElem? (i := 36) rfl))) rfl
theorem m_277 : Cond.code yJ_fillL cJ_fillL 5 none ∈ tb := tb_of (List.mem_append_right _ (List.mem_append_left _ (List.mem_of_getElem? (i := 37) rfl))) rfl
theorem m_278 : Cond.methodLink RQ 53 yQ_context ∈ tb := tb_of (List.mem_append_right _ (List.mem_append_left _ (List.mem_of_getElem? (i := 38) rfl))) rfl
theorem m_279 : Cond.static yQ_context ∈ tb := tb_of (List.mem_append_right _ (List.mem_append_left _ (List.mem_of_getElem? (i := 39) rfl))) rfl
theorem m_280 : Cond.code yQ_context cQ_context 2 (some .int) ∈ tb := tb_of (List.mem_append_right _ (List.mem_append_left _ (List.mem_of_getElem? (i := 40) rfl))) rfl
theorem m_281 : Cond.methodLink RQ 57 yS_count ∈ tb := tb_of (List.mem_append_right _ (List.mem_append_left _ (List.mem_of_getElem? (i := 41) rfl))) rfl
theorem m_282 : Cond.methodLink RQ 63 yQ_hear ∈ tb := tb_of (List.mem_append_right _ (List.mem_append_left _ (List.mem_of_getElem? (i := 42) rfl))) rfl
theorem m_284 : Cond.instanceMethod yQ_hear ∈ tb := tb_of (List.mem_append_right _ (List.mem_append_left _ (List.mem_of_getElem? (i := 44) rfl))) rfl
theorem m_285 : Cond.code yQ_hear cQ_hear 10 none ∈ tb := tb_of (List.mem_append_right _ (List.mem_append_left _ (List.mem_of_getElem? (i := 45) rfl))) rfl
theorem m_286 : Cond.methodLink RQ 77 yT_size ∈ tb := tb_of (List.mem_append_right _ (List.mem_append_left _ (List.mem_of_getElem? (i := 46) rfl))) rfl
theorem m_287 : Cond.methodLink RQ 80 yQ_place ∈ tb := tb_of (List.mem_append_right _ (List.mem_append_left _ (List.mem_of_getElem? (i := 47) rfl))) rfl
theorem m_288 : Cond.static yQ_place ∈ tb := tb_of (List.mem_append_right _ (List.mem_append_left _ (List.mem_of_getElem? (i := 48) rfl))) rfl
theorem m_289 : Cond.code yQ_place cQ_place 3 (some .int) ∈ tb := tb_of (List.mem_append_right _ (List.mem_append_left _ (List.mem_of_getElem? (i := 49) rfl))) rfl
theorem m_290 : Cond.methodLink RQ 84 yS_holdOf ∈ tb := tb_of (List.mem_append_right _ (List.mem_append_left _ (List.mem_of_getElem? (i := 50) rfl))) rfl
theorem m_291 : Cond.instanceMethod yS_holdOf ∈ tb := tb_of (List.mem_append_right _ (List.mem_append_left _ (List.mem_of_getElem? (i := 51) rfl))) rfl
theorem m_292 : Cond.selects RS yS_holdOf yS_holdOf ∈ tb := tb_of (List.mem_append_right _ (List.mem_append_left _ (List.mem_of_getElem? (i := 52) rfl))) rfl
theorem m_293 : Cond.code yS_holdOf cS_holdOf 2 (some .int) ∈ tb := tb_of (List.mem_append_right _ (List.mem_append_left _ (List.mem_of_getElem? (i := 53) rfl))) rfl
theorem m_294 : Cond.methodLink RQ 88 yK_plusCost ∈ tb := tb_of (List.mem_append_right _ (List.mem_append_left _ (List.mem_of_getElem? (i := 54) rfl))) rfl
theorem m_295 : Cond.static yK_plusCost ∈ tb := tb_of (List.mem_append_right _ (List.mem_append_left _ (List.mem_of_getElem? (i := 55) rfl))) rfl
theorem m_296 : Cond.code yK_plusCost cK_plusCost 3 (some .long) ∈ tb := tb_of (List.mem_append_right _ (List.mem_append_left _ (List.mem_of_getElem? (i := 56) rfl))) rfl
theorem m_297 : Cond.constantLong RK 11 (4611686018427387904) ∈ tb := tb_of (List.mem_append_right _ (List.mem_append_left _ (List.mem_of_getElem? (i := 57) rfl))) rfl
theorem m_298 : Cond.methodLink RQ 92 yQ_coming ∈ tb := tb_of (List.mem_append_right _ (List.mem_append_left _ (List.mem_of_getElem? (i := 58) rfl))) rfl
theorem m_300 : Cond.instanceMethod yQ_coming ∈ tb := tb_of (List.mem_append_right _ (List.mem_append_left _ (List.mem_of_getElem? (i := 60) rfl))) rfl
theorem m_301 : Cond.code yQ_coming cQ_coming 5 (some .long) ∈ tb := tb_of (List.mem_append_right _ (List.mem_append_left _ (List.mem_of_getElem? (i := 61) rfl))) rfl
theorem m_302 : Cond.methodLink RQ 108 yQ_leaving ∈ tb := tb_of (List.mem_append_right _ (List.mem_append_left _ (List.mem_of_getElem? (i := 62) rfl))) rfl
theorem m_304 : Cond.instanceMethod yQ_leaving ∈ tb := tb_of (List.mem_append_right _ (List.mem_append_left _ (List.mem_of_getElem? (i := 64) rfl))) rfl
theorem m_305 : Cond.code yQ_leaving cQ_leaving 4 (some .long) ∈ tb := tb_of (List.mem_append_right _ (List.mem_append_left _ (List.mem_of_getElem? (i := 65) rfl))) rfl
theorem m_306 : Cond.methodLink RQ 114 yS_leaveOf ∈ tb := tb_of (List.mem_append_right _ (List.mem_append_left _ (List.mem_of_getElem? (i := 66) rfl))) rfl
theorem m_307 : Cond.instanceMethod yS_leaveOf ∈ tb := tb_of (List.mem_append_right _ (List.mem_append_left _ (List.mem_of_getElem? (i := 67) rfl))) rfl
theorem m_308 : Cond.selects RS yS_leaveOf yS_leaveOf ∈ tb := tb_of (List.mem_append_right _ (List.mem_append_left _ (List.mem_of_getElem? (i := 68) rfl))) rfl
theorem m_309 : Cond.code yS_leaveOf cS_leaveOf 2 (some .int) ∈ tb := tb_of (List.mem_append_right _ (List.mem_append_left _ (List.mem_of_getElem? (i := 69) rfl))) rfl
theorem m_310 : Cond.methodLink RQ 111 yT_parentOf ∈ tb := tb_of (List.mem_append_right _ (List.mem_append_left _ (List.mem_of_getElem? (i := 70) rfl))) rfl
theorem m_311 : Cond.instanceMethod yT_parentOf ∈ tb := tb_of (List.mem_append_right _ (List.mem_append_left _ (List.mem_of_getElem? (i := 71) rfl))) rfl
theorem m_312 : Cond.selects RT yT_parentOf yT_parentOf ∈ tb := tb_of (List.mem_append_right _ (List.mem_append_left _ (List.mem_of_getElem? (i := 72) rfl))) rfl
theorem m_313 : Cond.code yT_parentOf cT_parentOf 2 (some .int) ∈ tb := tb_of (List.mem_append_right _ (List.mem_append_left _ (List.mem_of_getElem? (i := 73) rfl))) rfl
theorem m_314 : Cond.methodLink RQ 96 yA_min ∈ tb := tb_of (List.mem_append_right _ (List.mem_append_left _ (List.mem_of_getElem? (i := 74) rfl))) rfl
theorem m_315 : Cond.static yA_min ∈ tb := tb_of (List.mem_append_right _ (List.mem_append_left _ (List.mem_of_getElem? (i := 75) rfl))) rfl
theorem m_316 : Cond.code yA_min cA_min 4 (some .long) ∈ tb := tb_of (List.mem_append_right _ (List.mem_append_left _ (List.mem_of_getElem? (i := 76) rfl))) rfl
theorem m_317 : Cond.methodLink RQ 102 yT_phoneOf ∈ tb := tb_of (List.mem_append_right _ (List.mem_append_left _ (List.mem_of_getElem? (i := 77) rfl))) rfl
theorem m_318 : Cond.instanceMethod yT_phoneOf ∈ tb := tb_of (List.mem_append_right _ (List.mem_append_left _ (List.mem_of_getElem? (i := 78) rfl))) rfl
theorem m_319 : Cond.selects RT yT_phoneOf yT_phoneOf ∈ tb := tb_of (List.mem_append_right _ (List.mem_append_left _ (List.mem_of_getElem? (i := 79) rfl))) rfl
theorem m_320 : Cond.code yT_phoneOf cT_phoneOf 2 (some .int) ∈ tb := tb_of (List.mem_append_right _ (List.mem_append_left _ (List.mem_of_getElem? (i := 80) rfl))) rfl
theorem m_321 : Cond.methodLink RQ 105 yS_costOf ∈ tb := tb_of (List.mem_append_right _ (List.mem_append_left _ (List.mem_of_getElem? (i := 81) rfl))) rfl
theorem m_322 : Cond.instanceMethod yS_costOf ∈ tb := tb_of (List.mem_append_right _ (List.mem_append_left _ (List.mem_of_getElem? (i := 82) rfl))) rfl
theorem m_323 : Cond.selects RS yS_costOf yS_costOf ∈ tb := tb_of (List.mem_append_right _ (List.mem_append_left _ (List.mem_of_getElem? (i := 83) rfl))) rfl
theorem m_324 : Cond.code yS_costOf cS_costOf 4 (some .int) ∈ tb := tb_of (List.mem_append_right _ (List.mem_append_left _ (List.mem_of_getElem? (i := 84) rfl))) rfl
theorem m_325 : Cond.methodLink RQ 67 yQ_endWords ∈ tb := tb_of (List.mem_append_right _ (List.mem_append_left _ (List.mem_of_getElem? (i := 85) rfl))) rfl
theorem m_327 : Cond.instanceMethod yQ_endWords ∈ tb := tb_of (List.mem_append_right _ (List.mem_append_left _ (List.mem_of_getElem? (i := 87) rfl))) rfl
theorem m_328 : Cond.code yQ_endWords cQ_endWords 11 none ∈ tb := tb_of (List.mem_append_right _ (List.mem_append_left _ (List.mem_of_getElem? (i := 88) rfl))) rfl
theorem m_329 : Cond.methodLink RQ 117 yT_endsWord ∈ tb := tb_of (List.mem_append_right _ (List.mem_append_left _ (List.mem_of_getElem? (i := 89) rfl))) rfl
theorem m_330 : Cond.methodLink RQ 121 yG_costAfter ∈ tb := tb_of (List.mem_append_right _ (List.mem_append_left _ (List.mem_of_getElem? (i := 90) rfl))) rfl
theorem m_331 : Cond.methodLink RQ 126 yK_plusWord ∈ tb := tb_of (List.mem_append_right _ (List.mem_append_left _ (List.mem_of_getElem? (i := 91) rfl))) rfl
theorem m_332 : Cond.static yK_plusWord ∈ tb := tb_of (List.mem_append_right _ (List.mem_append_left _ (List.mem_of_getElem? (i := 92) rfl))) rfl
theorem m_333 : Cond.code yK_plusWord cK_plusWord 5 (some .long) ∈ tb := tb_of (List.mem_append_right _ (List.mem_append_left _ (List.mem_of_getElem? (i := 93) rfl))) rfl
theorem m_334 : Cond.constantLong RK 13 (1023) ∈ tb := tb_of (List.mem_append_right _ (List.mem_append_left _ (List.mem_of_getElem? (i := 94) rfl))) rfl
theorem m_335 : Cond.constantLong RK 15 (-1024) ∈ tb := tb_of (List.mem_append_right _ (List.mem_append_left _ (List.mem_of_getElem? (i := 95) rfl))) rfl
theorem m_336 : Cond.constantLong RK 17 (1024) ∈ tb := tb_of (List.mem_append_right _ (List.mem_append_left _ (List.mem_of_getElem? (i := 96) rfl))) rfl
theorem m_337 : Cond.methodLink RQ 71 yQ_measure ∈ tb := tb_of (List.mem_append_right _ (List.mem_append_left _ (List.mem_of_getElem? (i := 97) rfl))) rfl
theorem m_339 : Cond.instanceMethod yQ_measure ∈ tb := tb_of (List.mem_append_right _ (List.mem_append_left _ (List.mem_of_getElem? (i := 99) rfl))) rfl
theorem m_340 : Cond.code yQ_measure cQ_measure 6 none ∈ tb := tb_of (List.mem_append_right _ (List.mem_append_left _ (List.mem_of_getElem? (i := 100) rfl))) rfl
theorem m_341 : Cond.methodLink RQ 74 yQ_endPath ∈ tb := tb_of (List.mem_append_right _ (List.mem_append_left _ (List.mem_of_getElem? (i := 101) rfl))) rfl
theorem m_343 : Cond.instanceMethod yQ_endPath ∈ tb := tb_of (List.mem_append_right _ (List.mem_append_left _ (List.mem_of_getElem? (i := 103) rfl))) rfl
theorem m_344 : Cond.code yQ_endPath cQ_endPath 5 none ∈ tb := tb_of (List.mem_append_right _ (List.mem_append_left _ (List.mem_of_getElem? (i := 104) rfl))) rfl
theorem m_345 : Cond.methodLink RX 115 yQ_wholePath ∈ tb := tb_of (List.mem_append_right _ (List.mem_append_left _ (List.mem_of_getElem? (i := 105) rfl))) rfl
theorem m_346 : Cond.instanceMethod yQ_wholePath ∈ tb := tb_of (List.mem_append_right _ (List.mem_append_left _ (List.mem_of_getElem? (i := 106) rfl))) rfl
theorem m_347 : Cond.selects RQ yQ_wholePath yQ_wholePath ∈ tb := tb_of (List.mem_append_right _ (List.mem_append_left _ (List.mem_of_getElem? (i := 107) rfl))) rfl
theorem m_348 : Cond.code yQ_wholePath cQ_wholePath 1 (some .long) ∈ tb := tb_of (List.mem_append_right _ (List.mem_append_left _ (List.mem_of_getElem? (i := 108) rfl))) rfl
theorem m_349 : Cond.methodLink RX 119 yK_costOf ∈ tb := tb_of (List.mem_append_right _ (List.mem_append_left _ (List.mem_of_getElem? (i := 109) rfl))) rfl
theorem m_350 : Cond.static yK_costOf ∈ tb := tb_of (List.mem_append_right _ (List.mem_append_left _ (List.mem_of_getElem? (i := 110) rfl))) rfl
theorem m_351 : Cond.code yK_costOf cK_costOf 2 (some .int) ∈ tb := tb_of (List.mem_append_right _ (List.mem_append_left _ (List.mem_of_getElem? (i := 111) rfl))) rfl
theorem m_352 : Cond.methodLink RL 64 yX_length ∈ tb := tb_of (List.mem_append_right _ (List.mem_append_left _ (List.mem_of_getElem? (i := 112) rfl))) rfl
theorem m_353 : Cond.instanceMethod yX_length ∈ tb := tb_of (List.mem_append_right _ (List.mem_append_left _ (List.mem_of_getElem? (i := 113) rfl))) rfl
theorem m_354 : Cond.selects RX yX_length yX_length ∈ tb := tb_of (List.mem_append_right _ (List.mem_append_left _ (List.mem_of_getElem? (i := 114) rfl))) rfl
theorem m_355 : Cond.code yX_length cX_length 1 (some .int) ∈ tb := tb_of (List.mem_append_right _ (List.mem_append_left _ (List.mem_of_getElem? (i := 115) rfl))) rfl
theorem m_356 : Cond.methodLink RX 125 yK_countOf ∈ tb := tb_of (List.mem_append_right _ (List.mem_append_left _ (List.mem_of_getElem? (i := 116) rfl))) rfl
theorem m_357 : Cond.static yK_countOf ∈ tb := tb_of (List.mem_append_right _ (List.mem_append_left _ (List.mem_of_getElem? (i := 117) rfl))) rfl
theorem m_358 : Cond.code yK_countOf cK_countOf 2 (some .int) ∈ tb := tb_of (List.mem_append_right _ (List.mem_append_left _ (List.mem_of_getElem? (i := 118) rfl))) rfl
theorem m_359 : Cond.constantLong RK 19 (63) ∈ tb := tb_of (List.mem_append_right _ (List.mem_append_left _ (List.mem_of_getElem? (i := 119) rfl))) rfl
theorem m_360 : Cond.methodLink RL 68 yX_wordAt ∈ tb := tb_of (List.mem_append_right _ (List.mem_append_left _ (List.mem_of_getElem? (i := 120) rfl))) rfl
theorem m_361 : Cond.instanceMethod yX_wordAt ∈ tb := tb_of (List.mem_append_right _ (List.mem_append_left _ (List.mem_of_getElem? (i := 121) rfl))) rfl
theorem m_362 : Cond.selects RX yX_wordAt yX_wordAt ∈ tb := tb_of (List.mem_append_right _ (List.mem_append_left _ (List.mem_of_getElem? (i := 122) rfl))) rfl
theorem m_363 : Cond.code yX_wordAt cX_wordAt 2 (some .int) ∈ tb := tb_of (List.mem_append_right _ (List.mem_append_left _ (List.mem_of_getElem? (i := 123) rfl))) rfl
theorem m_364 : Cond.methodLink RX 128 yK_wordOf ∈ tb := tb_of (List.mem_append_right _ (List.mem_append_left _ (List.mem_of_getElem? (i := 124) rfl))) rfl
theorem m_365 : Cond.static yK_wordOf ∈ tb := tb_of (List.mem_append_right _ (List.mem_append_left _ (List.mem_of_getElem? (i := 125) rfl))) rfl
theorem m_366 : Cond.code yK_wordOf cK_wordOf 4 (some .int) ∈ tb := tb_of (List.mem_append_right _ (List.mem_append_left _ (List.mem_of_getElem? (i := 126) rfl))) rfl
theorem m_367 : Cond.methodLink RK 21 yK_countOf ∈ tb := tb_of (List.mem_append_right _ (List.mem_append_left _ (List.mem_of_getElem? (i := 127) rfl))) rfl
theorem m_368 : Cond.methodLink RL 73 yX_live ∈ tb := tb_of (List.mem_append_right _ (List.mem_append_left _ (List.mem_of_getElem? (i := 128) rfl))) rfl
theorem m_369 : Cond.instanceMethod yX_live ∈ tb := tb_of (List.mem_append_right _ (List.mem_append_left _ (List.mem_of_getElem? (i := 129) rfl))) rfl
theorem m_370 : Cond.selects RX yX_live yX_live ∈ tb := tb_of (List.mem_append_right _ (List.mem_append_left _ (List.mem_of_getElem? (i := 130) rfl))) rfl
theorem m_371 : Cond.code yX_live cX_live 2 (some .int) ∈ tb := tb_of (List.mem_append_right _ (List.mem_append_left _ (List.mem_of_getElem? (i := 131) rfl))) rfl
theorem m_372 : Cond.methodLink RX 132 yX_isFrameCount ∈ tb := tb_of (List.mem_append_right _ (List.mem_append_left _ (List.mem_of_getElem? (i := 132) rfl))) rfl
theorem m_374 : Cond.instanceMethod yX_isFrameCount ∈ tb := tb_of (List.mem_append_right _ (List.mem_append_left _ (List.mem_of_getElem? (i := 134) rfl))) rfl
theorem m_375 : Cond.code yX_isFrameCount cX_isFrameCount 2 (some .boolean) ∈ tb := tb_of (List.mem_append_right _ (List.mem_append_left _ (List.mem_of_getElem? (i := 135) rfl))) rfl
theorem m_376 : Cond.methodLink RX 135 yQ_placesAfter ∈ tb := tb_of (List.mem_append_right _ (List.mem_append_left _ (List.mem_of_getElem? (i := 136) rfl))) rfl
theorem m_377 : Cond.instanceMethod yQ_placesAfter ∈ tb := tb_of (List.mem_append_right _ (List.mem_append_left _ (List.mem_of_getElem? (i := 137) rfl))) rfl
theorem m_378 : Cond.selects RQ yQ_placesAfter yQ_placesAfter ∈ tb := tb_of (List.mem_append_right _ (List.mem_append_left _ (List.mem_of_getElem? (i := 138) rfl))) rfl
theorem m_379 : Cond.code yQ_placesAfter cQ_placesAfter 2 (some .int) ∈ tb := tb_of (List.mem_append_right _ (List.mem_append_left _ (List.mem_of_getElem? (i := 139) rfl))) rfl
theorem m_380 : Cond.methodLink RL 77 yX_best ∈ tb := tb_of (List.mem_append_right _ (List.mem_append_left _ (List.mem_of_getElem? (i := 140) rfl))) rfl
theorem m_381 : Cond.instanceMethod yX_best ∈ tb := tb_of (List.mem_append_right _ (List.mem_append_left _ (List.mem_of_getElem? (i := 141) rfl))) rfl
theorem m_382 : Cond.selects RX yX_best yX_best ∈ tb := tb_of (List.mem_append_right _ (List.mem_append_left _ (List.mem_of_getElem? (i := 142) rfl))) rfl
theorem m_383 : Cond.code yX_best cX_best 2 (some .int) ∈ tb := tb_of (List.mem_append_right _ (List.mem_append_left _ (List.mem_of_getElem? (i := 143) rfl))) rfl
theorem m_384 : Cond.methodLink RX 139 yQ_leastAfter ∈ tb := tb_of (List.mem_append_right _ (List.mem_append_left _ (List.mem_of_getElem? (i := 144) rfl))) rfl
theorem m_385 : Cond.instanceMethod yQ_leastAfter ∈ tb := tb_of (List.mem_append_right _ (List.mem_append_left _ (List.mem_of_getElem? (i := 145) rfl))) rfl
theorem m_386 : Cond.selects RQ yQ_leastAfter yQ_leastAfter ∈ tb := tb_of (List.mem_append_right _ (List.mem_append_left _ (List.mem_of_getElem? (i := 146) rfl))) rfl
theorem m_387 : Cond.code yQ_leastAfter cQ_leastAfter 2 (some .long) ∈ tb := tb_of (List.mem_append_right _ (List.mem_append_left _ (List.mem_of_getElem? (i := 147) rfl))) rfl
theorem m_388 : Cond.classLink RL 10 RM ∈ tb := tb_of (List.mem_append_right _ (List.mem_append_left _ (List.mem_of_getElem? (i := 148) rfl))) rfl
theorem m_389 : Cond.instantiable RM 20 ∈ tb := tb_of (List.mem_append_right _ (List.mem_append_left _ (List.mem_of_getElem? (i := 149) rfl))) rfl
theorem m_390 : Cond.methodLink RL 12 yM_init ∈ tb := tb_of (List.mem_append_right _ (List.mem_append_left _ (List.mem_of_getElem? (i := 150) rfl))) rfl
theorem m_391 : Cond.instanceMethod yM_init ∈ tb := tb_of (List.mem_append_right _ (List.mem_append_left _ (List.mem_of_getElem? (i := 151) rfl))) rfl
theorem m_392 : Cond.code yM_init cM_init 1 none ∈ tb := tb_of (List.mem_append_right _ (List.mem_append_left _ (List.mem_of_getElem? (i := 152) rfl))) rfl
theorem m_393 : Cond.methodLink RM 1 objectInit ∈ tb := tb_of (List.mem_append_right _ (List.mem_append_left _ (List.mem_of_getElem? (i := 153) rfl))) rfl
theorem m_394 : Cond.fieldLink RM 7 "WordTokenPasserModel" "known" "[Z" ∈ tb := tb_of (List.mem_append_right _ (List.mem_append_left _ (List.mem_of_getElem? (i := 154) rfl))) rfl
theorem m_395 : Cond.fieldLink RM 13 "WordTokenPasserModel" "cost" "[I" ∈ tb := tb_of (List.mem_append_right _ (List.mem_append_left _ (List.mem_of_getElem? (i := 155) rfl))) rfl
theorem m_396 : Cond.fieldLink RM 17 "WordTokenPasserModel" "backoff" "[I" ∈ tb := tb_of (List.mem_append_right _ (List.mem_append_left _ (List.mem_of_getElem? (i := 156) rfl))) rfl
theorem m_397 : Cond.fieldLink RM 60 "WordTokenPasserModel" "many" "I" ∈ tb := tb_of (List.mem_append_right _ (List.mem_append_left _ (List.mem_of_getElem? (i := 157) rfl))) rfl
theorem m_398 : Cond.fieldLink RM 20 "WordTokenPasserModel" "word" "[I" ∈ tb := tb_of (List.mem_append_right _ (List.mem_append_left _ (List.mem_of_getElem? (i := 158) rfl))) rfl
theorem m_399 : Cond.fieldLink RM 23 "WordTokenPasserModel" "size" "[I" ∈ tb := tb_of (List.mem_append_right _ (List.mem_append_left _ (List.mem_of_getElem? (i := 159) rfl))) rfl
theorem m_400 : Cond.fieldLink RM 26 "WordTokenPasserModel" "phone" "[I" ∈ tb := tb_of (List.mem_append_right _ (List.mem_append_left _ (List.mem_of_getElem? (i := 160) rfl))) rfl
theorem m_401 : Cond.fieldLink RM 29 "WordTokenPasserModel" "hold" "[I" ∈ tb := tb_of (List.mem_append_right _ (List.mem_append_left _ (List.mem_of_getElem? (i := 161) rfl))) rfl
theorem m_402 : Cond.fieldLink RM 32 "WordTokenPasserModel" "leave" "[I" ∈ tb := tb_of (List.mem_append_right _ (List.mem_append_left _ (List.mem_of_getElem? (i := 162) rfl))) rfl
theorem m_403 : Cond.fieldLink RM 87 "WordTokenPasserModel" "frames" "I" ∈ tb := tb_of (List.mem_append_right _ (List.mem_append_left _ (List.mem_of_getElem? (i := 163) rfl))) rfl
theorem m_404 : Cond.fieldLink RM 35 "WordTokenPasserModel" "sound" "[I" ∈ tb := tb_of (List.mem_append_right _ (List.mem_append_left _ (List.mem_of_getElem? (i := 164) rfl))) rfl
theorem m_405 : Cond.fieldLink RM 38 "WordTokenPasserModel" "least" "[I" ∈ tb := tb_of (List.mem_append_right _ (List.mem_append_left _ (List.mem_of_getElem? (i := 165) rfl))) rfl
theorem m_406 : Cond.fieldLink RM 41 "WordTokenPasserModel" "done" "[I" ∈ tb := tb_of (List.mem_append_right _ (List.mem_append_left _ (List.mem_of_getElem? (i := 166) rfl))) rfl
theorem m_407 : Cond.fieldLink RM 44 "WordTokenPasserModel" "code" "[I" ∈ tb := tb_of (List.mem_append_right _ (List.mem_append_left _ (List.mem_of_getElem? (i := 167) rfl))) rfl
theorem m_408 : Cond.fieldLink RM 47 "WordTokenPasserModel" "next" "[I" ∈ tb := tb_of (List.mem_append_right _ (List.mem_append_left _ (List.mem_of_getElem? (i := 168) rfl))) rfl
theorem m_409 : Cond.fieldLink RM 50 "WordTokenPasserModel" "nextDone" "[I" ∈ tb := tb_of (List.mem_append_right _ (List.mem_append_left _ (List.mem_of_getElem? (i := 169) rfl))) rfl
theorem m_410 : Cond.fieldLink RM 53 "WordTokenPasserModel" "nextCode" "[I" ∈ tb := tb_of (List.mem_append_right _ (List.mem_append_left _ (List.mem_of_getElem? (i := 170) rfl))) rfl
theorem m_411 : Cond.fieldLink RM 111 "WordTokenPasserModel" "all" "I" ∈ tb := tb_of (List.mem_append_right _ (List.mem_append_left _ (List.mem_of_getElem? (i := 171) rfl))) rfl
theorem m_412 : Cond.fieldLink RM 114 "WordTokenPasserModel" "words" "I" ∈ tb := tb_of (List.mem_append_right _ (List.mem_append_left _ (List.mem_of_getElem? (i := 172) rfl))) rfl
theorem m_413 : Cond.fieldLink RM 117 "WordTokenPasserModel" "which" "I" ∈ tb := tb_of (List.mem_append_right _ (List.mem_append_left _ (List.mem_of_getElem? (i := 173) rfl))) rfl
theorem m_455 : Cond.methodLink RL 59 yM_nodes ∈ tb := tb_of (List.mem_append_right _ (List.mem_append_left _ (List.mem_of_getElem? (i := 215) rfl))) rfl
theorem m_456 : Cond.instanceMethod yM_nodes ∈ tb := tb_of (List.mem_append_right _ (List.mem_append_left _ (List.mem_of_getElem? (i := 216) rfl))) rfl
theorem m_457 : Cond.selects RM yM_nodes yM_nodes ∈ tb := tb_of (List.mem_append_right _ (List.mem_append_left _ (List.mem_of_getElem? (i := 217) rfl))) rfl
theorem m_458 : Cond.code yM_nodes cM_nodes 4 (some .int) ∈ tb := tb_of (List.mem_append_right _ (List.mem_append_left _ (List.mem_of_getElem? (i := 218) rfl))) rfl
theorem m_459 : Cond.methodLink RM 64 yM_fresh ∈ tb := tb_of (List.mem_append_right _ (List.mem_append_left _ (List.mem_of_getElem? (i := 219) rfl))) rfl
theorem m_461 : Cond.instanceMethod yM_fresh ∈ tb := tb_of (List.mem_append_right _ (List.mem_append_left _ (List.mem_of_getElem? (i := 221) rfl))) rfl
theorem m_462 : Cond.code yM_fresh cM_fresh 5 (some .boolean) ∈ tb := tb_of (List.mem_append_right _ (List.mem_append_left _ (List.mem_of_getElem? (i := 222) rfl))) rfl
theorem m_463 : Cond.methodLink RM 56 yM_begins ∈ tb := tb_of (List.mem_append_right _ (List.mem_append_left _ (List.mem_of_getElem? (i := 223) rfl))) rfl
theorem m_465 : Cond.instanceMethod yM_begins ∈ tb := tb_of (List.mem_append_right _ (List.mem_append_left _ (List.mem_of_getElem? (i := 225) rfl))) rfl
theorem m_466 : Cond.code yM_begins cM_begins 6 (some .boolean) ∈ tb := tb_of (List.mem_append_right _ (List.mem_append_left _ (List.mem_of_getElem? (i := 226) rfl))) rfl
theorem m_467 : Cond.methodLink RL 17 yM_say ∈ tb := tb_of (List.mem_append_right _ (List.mem_append_left _ (List.mem_of_getElem? (i := 227) rfl))) rfl
theorem m_468 : Cond.instanceMethod yM_say ∈ tb := tb_of (List.mem_append_right _ (List.mem_append_left _ (List.mem_of_getElem? (i := 228) rfl))) rfl
theorem m_469 : Cond.selects RM yM_say yM_say ∈ tb := tb_of (List.mem_append_right _ (List.mem_append_left _ (List.mem_of_getElem? (i := 229) rfl))) rfl
theorem m_470 : Cond.code yM_say cM_say 7 (some .int) ∈ tb := tb_of (List.mem_append_right _ (List.mem_append_left _ (List.mem_of_getElem? (i := 230) rfl))) rfl
theorem m_471 : Cond.methodLink RM 68 yM_up ∈ tb := tb_of (List.mem_append_right _ (List.mem_append_left _ (List.mem_of_getElem? (i := 231) rfl))) rfl
theorem m_472 : Cond.static yM_up ∈ tb := tb_of (List.mem_append_right _ (List.mem_append_left _ (List.mem_of_getElem? (i := 232) rfl))) rfl
theorem m_473 : Cond.code yM_up cM_up 2 (some .boolean) ∈ tb := tb_of (List.mem_append_right _ (List.mem_append_left _ (List.mem_of_getElem? (i := 233) rfl))) rfl
theorem m_474 : Cond.methodLink RM 71 yM_nodes ∈ tb := tb_of (List.mem_append_right _ (List.mem_append_left _ (List.mem_of_getElem? (i := 234) rfl))) rfl
theorem m_475 : Cond.methodLink RL 22 yM_gram ∈ tb := tb_of (List.mem_append_right _ (List.mem_append_left _ (List.mem_of_getElem? (i := 235) rfl))) rfl
theorem m_476 : Cond.instanceMethod yM_gram ∈ tb := tb_of (List.mem_append_right _ (List.mem_append_left _ (List.mem_of_getElem? (i := 236) rfl))) rfl
theorem m_477 : Cond.selects RM yM_gram yM_gram ∈ tb := tb_of (List.mem_append_right _ (List.mem_append_left _ (List.mem_of_getElem? (i := 237) rfl))) rfl
theorem m_478 : Cond.code yM_gram cM_gram 7 (some .boolean) ∈ tb := tb_of (List.mem_append_right _ (List.mem_append_left _ (List.mem_of_getElem? (i := 238) rfl))) rfl
theorem m_479 : Cond.methodLink RM 75 yM_slot ∈ tb := tb_of (List.mem_append_right _ (List.mem_append_left _ (List.mem_of_getElem? (i := 239) rfl))) rfl
theorem m_480 : Cond.static yM_slot ∈ tb := tb_of (List.mem_append_right _ (List.mem_append_right _ (List.mem_of_getElem? (i := 0) rfl))) rfl
theorem m_481 : Cond.code yM_slot cM_slot 3 (some .int) ∈ tb := tb_of (List.mem_append_right _ (List.mem_append_right _ (List.mem_of_getElem? (i := 1) rfl))) rfl
theorem m_482 : Cond.methodLink RL 27 yM_ungram ∈ tb := tb_of (List.mem_append_right _ (List.mem_append_right _ (List.mem_of_getElem? (i := 2) rfl))) rfl
theorem m_483 : Cond.instanceMethod yM_ungram ∈ tb := tb_of (List.mem_append_right _ (List.mem_append_right _ (List.mem_of_getElem? (i := 3) rfl))) rfl
theorem m_484 : Cond.selects RM yM_ungram yM_ungram ∈ tb := tb_of (List.mem_append_right _ (List.mem_append_right _ (List.mem_of_getElem? (i := 4) rfl))) rfl
theorem m_485 : Cond.code yM_ungram cM_ungram 5 (some .boolean) ∈ tb := tb_of (List.mem_append_right _ (List.mem_append_right _ (List.mem_of_getElem? (i := 5) rfl))) rfl
theorem m_486 : Cond.methodLink RL 32 yM_after ∈ tb := tb_of (List.mem_append_right _ (List.mem_append_right _ (List.mem_of_getElem? (i := 6) rfl))) rfl
theorem m_487 : Cond.instanceMethod yM_after ∈ tb := tb_of (List.mem_append_right _ (List.mem_append_right _ (List.mem_of_getElem? (i := 7) rfl))) rfl
theorem m_488 : Cond.selects RM yM_after yM_after ∈ tb := tb_of (List.mem_append_right _ (List.mem_append_right _ (List.mem_of_getElem? (i := 8) rfl))) rfl
theorem m_489 : Cond.code yM_after cM_after 6 (some .int) ∈ tb := tb_of (List.mem_append_right _ (List.mem_append_right _ (List.mem_of_getElem? (i := 9) rfl))) rfl
theorem m_490 : Cond.methodLink RM 83 yM_afterOne ∈ tb := tb_of (List.mem_append_right _ (List.mem_append_right _ (List.mem_of_getElem? (i := 10) rfl))) rfl
theorem m_492 : Cond.instanceMethod yM_afterOne ∈ tb := tb_of (List.mem_append_right _ (List.mem_append_right _ (List.mem_of_getElem? (i := 12) rfl))) rfl
theorem m_493 : Cond.code yM_afterOne cM_afterOne 4 (some .int) ∈ tb := tb_of (List.mem_append_right _ (List.mem_append_right _ (List.mem_of_getElem? (i := 13) rfl))) rfl
theorem m_494 : Cond.methodLink RM 79 yM_back ∈ tb := tb_of (List.mem_append_right _ (List.mem_append_right _ (List.mem_of_getElem? (i := 14) rfl))) rfl
theorem m_496 : Cond.instanceMethod yM_back ∈ tb := tb_of (List.mem_append_right _ (List.mem_append_right _ (List.mem_of_getElem? (i := 16) rfl))) rfl
theorem m_497 : Cond.code yM_back cM_back 2 (some .int) ∈ tb := tb_of (List.mem_append_right _ (List.mem_append_right _ (List.mem_of_getElem? (i := 17) rfl))) rfl
theorem m_498 : Cond.methodLink RL 36 yM_topology ∈ tb := tb_of (List.mem_append_right _ (List.mem_append_right _ (List.mem_of_getElem? (i := 18) rfl))) rfl
theorem m_499 : Cond.instanceMethod yM_topology ∈ tb := tb_of (List.mem_append_right _ (List.mem_append_right _ (List.mem_of_getElem? (i := 19) rfl))) rfl
theorem m_500 : Cond.selects RM yM_topology yM_topology ∈ tb := tb_of (List.mem_append_right _ (List.mem_append_right _ (List.mem_of_getElem? (i := 20) rfl))) rfl
theorem m_501 : Cond.code yM_topology cM_topology 4 (some .boolean) ∈ tb := tb_of (List.mem_append_right _ (List.mem_append_right _ (List.mem_of_getElem? (i := 21) rfl))) rfl
theorem m_502 : Cond.methodLink RL 41 yM_frame ∈ tb := tb_of (List.mem_append_right _ (List.mem_append_right _ (List.mem_of_getElem? (i := 22) rfl))) rfl
theorem m_503 : Cond.instanceMethod yM_frame ∈ tb := tb_of (List.mem_append_right _ (List.mem_append_right _ (List.mem_of_getElem? (i := 23) rfl))) rfl
theorem m_504 : Cond.selects RM yM_frame yM_frame ∈ tb := tb_of (List.mem_append_right _ (List.mem_append_right _ (List.mem_of_getElem? (i := 24) rfl))) rfl
theorem m_505 : Cond.code yM_frame cM_frame 2 (some .int) ∈ tb := tb_of (List.mem_append_right _ (List.mem_append_right _ (List.mem_of_getElem? (i := 25) rfl))) rfl
theorem m_506 : Cond.methodLink RL 46 yM_drop ∈ tb := tb_of (List.mem_append_right _ (List.mem_append_right _ (List.mem_of_getElem? (i := 26) rfl))) rfl
theorem m_507 : Cond.instanceMethod yM_drop ∈ tb := tb_of (List.mem_append_right _ (List.mem_append_right _ (List.mem_of_getElem? (i := 27) rfl))) rfl
theorem m_508 : Cond.selects RM yM_drop yM_drop ∈ tb := tb_of (List.mem_append_right _ (List.mem_append_right _ (List.mem_of_getElem? (i := 28) rfl))) rfl
theorem m_509 : Cond.code yM_drop cM_drop 1 (some .boolean) ∈ tb := tb_of (List.mem_append_right _ (List.mem_append_right _ (List.mem_of_getElem? (i := 29) rfl))) rfl
theorem m_510 : Cond.methodLink RL 51 yM_sound ∈ tb := tb_of (List.mem_append_right _ (List.mem_append_right _ (List.mem_of_getElem? (i := 30) rfl))) rfl
theorem m_511 : Cond.instanceMethod yM_sound ∈ tb := tb_of (List.mem_append_right _ (List.mem_append_right _ (List.mem_of_getElem? (i := 31) rfl))) rfl
theorem m_512 : Cond.selects RM yM_sound yM_sound ∈ tb := tb_of (List.mem_append_right _ (List.mem_append_right _ (List.mem_of_getElem? (i := 32) rfl))) rfl
theorem m_513 : Cond.code yM_sound cM_sound 5 (some .boolean) ∈ tb := tb_of (List.mem_append_right _ (List.mem_append_right _ (List.mem_of_getElem? (i := 33) rfl))) rfl
theorem m_514 : Cond.methodLink RL 55 yM_frames ∈ tb := tb_of (List.mem_append_right _ (List.mem_append_right _ (List.mem_of_getElem? (i := 34) rfl))) rfl
theorem m_515 : Cond.instanceMethod yM_frames ∈ tb := tb_of (List.mem_append_right _ (List.mem_append_right _ (List.mem_of_getElem? (i := 35) rfl))) rfl
theorem m_516 : Cond.selects RM yM_frames yM_frames ∈ tb := tb_of (List.mem_append_right _ (List.mem_append_right _ (List.mem_of_getElem? (i := 36) rfl))) rfl
theorem m_517 : Cond.code yM_frames cM_frames 1 (some .int) ∈ tb := tb_of (List.mem_append_right _ (List.mem_append_right _ (List.mem_of_getElem? (i := 37) rfl))) rfl
theorem m_518 : Cond.methodLink RL 63 yM_total ∈ tb := tb_of (List.mem_append_right _ (List.mem_append_right _ (List.mem_of_getElem? (i := 38) rfl))) rfl
theorem m_519 : Cond.instanceMethod yM_total ∈ tb := tb_of (List.mem_append_right _ (List.mem_append_right _ (List.mem_of_getElem? (i := 39) rfl))) rfl
theorem m_520 : Cond.selects RM yM_total yM_total ∈ tb := tb_of (List.mem_append_right _ (List.mem_append_right _ (List.mem_of_getElem? (i := 40) rfl))) rfl
theorem m_521 : Cond.code yM_total cM_total 1 (some .int) ∈ tb := tb_of (List.mem_append_right _ (List.mem_append_right _ (List.mem_of_getElem? (i := 41) rfl))) rfl
theorem m_522 : Cond.methodLink RM 120 yM_whole ∈ tb := tb_of (List.mem_append_right _ (List.mem_append_right _ (List.mem_of_getElem? (i := 42) rfl))) rfl
theorem m_524 : Cond.instanceMethod yM_whole ∈ tb := tb_of (List.mem_append_right _ (List.mem_append_right _ (List.mem_of_getElem? (i := 44) rfl))) rfl
theorem m_525 : Cond.code yM_whole cM_whole 10 none ∈ tb := tb_of (List.mem_append_right _ (List.mem_append_right _ (List.mem_of_getElem? (i := 45) rfl))) rfl
theorem m_526 : Cond.methodLink RM 107 yM_run ∈ tb := tb_of (List.mem_append_right _ (List.mem_append_right _ (List.mem_of_getElem? (i := 46) rfl))) rfl
theorem m_528 : Cond.instanceMethod yM_run ∈ tb := tb_of (List.mem_append_right _ (List.mem_append_right _ (List.mem_of_getElem? (i := 48) rfl))) rfl
theorem m_529 : Cond.code yM_run cM_run 4 none ∈ tb := tb_of (List.mem_append_right _ (List.mem_append_right _ (List.mem_of_getElem? (i := 49) rfl))) rfl
theorem m_530 : Cond.methodLink RM 97 yM_clear ∈ tb := tb_of (List.mem_append_right _ (List.mem_append_right _ (List.mem_of_getElem? (i := 50) rfl))) rfl
theorem m_532 : Cond.instanceMethod yM_clear ∈ tb := tb_of (List.mem_append_right _ (List.mem_append_right _ (List.mem_of_getElem? (i := 52) rfl))) rfl
theorem m_533 : Cond.code yM_clear cM_clear 2 none ∈ tb := tb_of (List.mem_append_right _ (List.mem_append_right _ (List.mem_of_getElem? (i := 53) rfl))) rfl
theorem m_534 : Cond.methodLink RM 90 yM_come ∈ tb := tb_of (List.mem_append_right _ (List.mem_append_right _ (List.mem_of_getElem? (i := 54) rfl))) rfl
theorem m_536 : Cond.instanceMethod yM_come ∈ tb := tb_of (List.mem_append_right _ (List.mem_append_right _ (List.mem_of_getElem? (i := 56) rfl))) rfl
theorem m_537 : Cond.code yM_come cM_come 11 none ∈ tb := tb_of (List.mem_append_right _ (List.mem_append_right _ (List.mem_of_getElem? (i := 57) rfl))) rfl
theorem m_538 : Cond.methodLink RM 100 yM_take ∈ tb := tb_of (List.mem_append_right _ (List.mem_append_right _ (List.mem_of_getElem? (i := 58) rfl))) rfl
theorem m_540 : Cond.instanceMethod yM_take ∈ tb := tb_of (List.mem_append_right _ (List.mem_append_right _ (List.mem_of_getElem? (i := 60) rfl))) rfl
theorem m_541 : Cond.code yM_take cM_take 2 none ∈ tb := tb_of (List.mem_append_right _ (List.mem_append_right _ (List.mem_of_getElem? (i := 61) rfl))) rfl
theorem m_542 : Cond.methodLink RM 103 yM_go ∈ tb := tb_of (List.mem_append_right _ (List.mem_append_right _ (List.mem_of_getElem? (i := 62) rfl))) rfl
theorem m_544 : Cond.instanceMethod yM_go ∈ tb := tb_of (List.mem_append_right _ (List.mem_append_right _ (List.mem_of_getElem? (i := 64) rfl))) rfl
theorem m_545 : Cond.code yM_go cM_go 9 none ∈ tb := tb_of (List.mem_append_right _ (List.mem_append_right _ (List.mem_of_getElem? (i := 65) rfl))) rfl
theorem m_546 : Cond.methodLink RM 94 yM_after ∈ tb := tb_of (List.mem_append_right _ (List.mem_append_right _ (List.mem_of_getElem? (i := 66) rfl))) rfl
theorem m_547 : Cond.methodLink RL 67 yM_length ∈ tb := tb_of (List.mem_append_right _ (List.mem_append_right _ (List.mem_of_getElem? (i := 67) rfl))) rfl
theorem m_548 : Cond.instanceMethod yM_length ∈ tb := tb_of (List.mem_append_right _ (List.mem_append_right _ (List.mem_of_getElem? (i := 68) rfl))) rfl
theorem m_549 : Cond.selects RM yM_length yM_length ∈ tb := tb_of (List.mem_append_right _ (List.mem_append_right _ (List.mem_of_getElem? (i := 69) rfl))) rfl
theorem m_550 : Cond.code yM_length cM_length 1 (some .int) ∈ tb := tb_of (List.mem_append_right _ (List.mem_append_right _ (List.mem_of_getElem? (i := 70) rfl))) rfl
theorem m_551 : Cond.methodLink RL 72 yM_wordAt ∈ tb := tb_of (List.mem_append_right _ (List.mem_append_right _ (List.mem_of_getElem? (i := 71) rfl))) rfl
theorem m_552 : Cond.instanceMethod yM_wordAt ∈ tb := tb_of (List.mem_append_right _ (List.mem_append_right _ (List.mem_of_getElem? (i := 72) rfl))) rfl
theorem m_553 : Cond.selects RM yM_wordAt yM_wordAt ∈ tb := tb_of (List.mem_append_right _ (List.mem_append_right _ (List.mem_of_getElem? (i := 73) rfl))) rfl
theorem m_554 : Cond.code yM_wordAt cM_wordAt 2 (some .int) ∈ tb := tb_of (List.mem_append_right _ (List.mem_append_right _ (List.mem_of_getElem? (i := 74) rfl))) rfl
theorem m_555 : Cond.methodLink RL 76 yM_live ∈ tb := tb_of (List.mem_append_right _ (List.mem_append_right _ (List.mem_of_getElem? (i := 75) rfl))) rfl
theorem m_556 : Cond.instanceMethod yM_live ∈ tb := tb_of (List.mem_append_right _ (List.mem_append_right _ (List.mem_of_getElem? (i := 76) rfl))) rfl
theorem m_557 : Cond.selects RM yM_live yM_live ∈ tb := tb_of (List.mem_append_right _ (List.mem_append_right _ (List.mem_of_getElem? (i := 77) rfl))) rfl
theorem m_558 : Cond.code yM_live cM_live 4 (some .int) ∈ tb := tb_of (List.mem_append_right _ (List.mem_append_right _ (List.mem_of_getElem? (i := 78) rfl))) rfl
theorem m_559 : Cond.methodLink RL 80 yM_best ∈ tb := tb_of (List.mem_append_right _ (List.mem_append_right _ (List.mem_of_getElem? (i := 79) rfl))) rfl
theorem m_560 : Cond.instanceMethod yM_best ∈ tb := tb_of (List.mem_append_right _ (List.mem_append_right _ (List.mem_of_getElem? (i := 80) rfl))) rfl
theorem m_561 : Cond.selects RM yM_best yM_best ∈ tb := tb_of (List.mem_append_right _ (List.mem_append_right _ (List.mem_of_getElem? (i := 81) rfl))) rfl
theorem m_562 : Cond.code yM_best cM_best 4 (some .int) ∈ tb := tb_of (List.mem_append_right _ (List.mem_append_right _ (List.mem_of_getElem? (i := 82) rfl))) rfl
theorem ms_0 : Cond.selects RT yT_childOf yT_childOf ∈ tb := tb_sel (List.mem_of_getElem? (i := 0) rfl) rfl
theorem ms_1 : Cond.selects RT yT_grow yT_grow ∈ tb := tb_sel (List.mem_of_getElem? (i := 1) rfl) rfl
theorem ms_2 : Cond.selects RG yG_costOfTwo yG_costOfTwo ∈ tb := tb_sel (List.mem_of_getElem? (i := 2) rfl) rfl
theorem ms_3 : Cond.selects RX yX_searchOnce yX_searchOnce ∈ tb := tb_sel (List.mem_of_getElem? (i := 3) rfl) rfl
theorem ms_4 : Cond.selects RQ yQ_hear yQ_hear ∈ tb := tb_sel (List.mem_of_getElem? (i := 4) rfl) rfl
theorem ms_5 : Cond.selects RQ yQ_coming yQ_coming ∈ tb := tb_sel (List.mem_of_getElem? (i := 5) rfl) rfl
theorem ms_6 : Cond.selects RQ yQ_leaving yQ_leaving ∈ tb := tb_sel (List.mem_of_getElem? (i := 6) rfl) rfl
theorem ms_7 : Cond.selects RQ yQ_endWords yQ_endWords ∈ tb := tb_sel (List.mem_of_getElem? (i := 7) rfl) rfl
theorem ms_8 : Cond.selects RQ yQ_measure yQ_measure ∈ tb := tb_sel (List.mem_of_getElem? (i := 8) rfl) rfl
theorem ms_9 : Cond.selects RQ yQ_endPath yQ_endPath ∈ tb := tb_sel (List.mem_of_getElem? (i := 9) rfl) rfl
theorem ms_10 : Cond.selects RX yX_isFrameCount yX_isFrameCount ∈ tb := tb_sel (List.mem_of_getElem? (i := 10) rfl) rfl
theorem ms_11 : Cond.selects RM yM_fresh yM_fresh ∈ tb := tb_sel (List.mem_of_getElem? (i := 11) rfl) rfl
theorem ms_12 : Cond.selects RM yM_begins yM_begins ∈ tb := tb_sel (List.mem_of_getElem? (i := 12) rfl) rfl
theorem ms_13 : Cond.selects RM yM_afterOne yM_afterOne ∈ tb := tb_sel (List.mem_of_getElem? (i := 13) rfl) rfl
theorem ms_14 : Cond.selects RM yM_back yM_back ∈ tb := tb_sel (List.mem_of_getElem? (i := 14) rfl) rfl
theorem ms_15 : Cond.selects RM yM_whole yM_whole ∈ tb := tb_sel (List.mem_of_getElem? (i := 15) rfl) rfl
theorem ms_16 : Cond.selects RM yM_run yM_run ∈ tb := tb_sel (List.mem_of_getElem? (i := 16) rfl) rfl
theorem ms_17 : Cond.selects RM yM_clear yM_clear ∈ tb := tb_sel (List.mem_of_getElem? (i := 17) rfl) rfl
theorem ms_18 : Cond.selects RM yM_come yM_come ∈ tb := tb_sel (List.mem_of_getElem? (i := 18) rfl) rfl
theorem ms_19 : Cond.selects RM yM_take yM_take ∈ tb := tb_sel (List.mem_of_getElem? (i := 19) rfl) rfl
theorem ms_20 : Cond.selects RM yM_go yM_go ∈ tb := tb_sel (List.mem_of_getElem? (i := 20) rfl) rfl
theorem inX : ∀ w ∈ u_ws RX TX 5, w ∈ tb := by
  intro w hw
  obtain ⟨k, hk, rfl⟩ := List.mem_map.mp hw
  have hk := List.mem_range.mp hk
  match k, hk with
  | 0, _ => exact tb_of (List.mem_append_left _ (List.mem_of_getElem? (i := 118) rfl)) rfl
  | 1, _ => exact tb_of (List.mem_append_left _ (List.mem_of_getElem? (i := 120) rfl)) rfl
  | 2, _ => exact tb_of (List.mem_append_left _ (List.mem_of_getElem? (i := 122) rfl)) rfl
  | 3, _ => exact tb_of (List.mem_append_left _ (List.mem_of_getElem? (i := 124) rfl)) rfl
  | 4, _ => exact tb_of (List.mem_append_left _ (List.mem_of_getElem? (i := 126) rfl)) rfl
  | k + 5, h => exact absurd h (by omega)
theorem inT : ∀ w ∈ u_ws RT TT 6, w ∈ tb := by
  intro w hw
  obtain ⟨k, hk, rfl⟩ := List.mem_map.mp hw
  have hk := List.mem_range.mp hk
  match k, hk with
  | 0, _ => exact tb_of (List.mem_append_left _ (List.mem_of_getElem? (i := 30) rfl)) rfl
  | 1, _ => exact tb_of (List.mem_append_left _ (List.mem_of_getElem? (i := 32) rfl)) rfl
  | 2, _ => exact tb_of (List.mem_append_left _ (List.mem_of_getElem? (i := 34) rfl)) rfl
  | 3, _ => exact tb_of (List.mem_append_left _ (List.mem_of_getElem? (i := 36) rfl)) rfl
  | 4, _ => exact tb_of (List.mem_append_left _ (List.mem_of_getElem? (i := 38) rfl)) rfl
  | 5, _ => exact tb_of (List.mem_append_left _ (List.mem_of_getElem? (i := 40) rfl)) rfl
  | k + 6, h => exact absurd h (by omega)
theorem inG : ∀ w ∈ u_ws RG TG 2, w ∈ tb := by
  intro w hw
  obtain ⟨k, hk, rfl⟩ := List.mem_map.mp hw
  have hk := List.mem_range.mp hk
  match k, hk with
  | 0, _ => exact tb_of (List.mem_append_left _ (List.mem_of_getElem? (i := 56) rfl)) rfl
  | 1, _ => exact tb_of (List.mem_append_left _ (List.mem_of_getElem? (i := 58) rfl)) rfl
  | k + 2, h => exact absurd h (by omega)
theorem inS : ∀ w ∈ u_ws RS TS 4, w ∈ tb := by
  intro w hw
  obtain ⟨k, hk, rfl⟩ := List.mem_map.mp hw
  have hk := List.mem_range.mp hk
  match k, hk with
  | 0, _ => exact tb_of (List.mem_append_left _ (List.mem_of_getElem? (i := 71) rfl)) rfl
  | 1, _ => exact tb_of (List.mem_append_left _ (List.mem_of_getElem? (i := 73) rfl)) rfl
  | 2, _ => exact tb_of (List.mem_append_left _ (List.mem_of_getElem? (i := 75) rfl)) rfl
  | 3, _ => exact tb_of (List.mem_append_left _ (List.mem_of_getElem? (i := 77) rfl)) rfl
  | k + 4, h => exact absurd h (by omega)
theorem inQ : ∀ w ∈ u_ws RQ TQ 8, w ∈ tb := by
  intro w hw
  obtain ⟨k, hk, rfl⟩ := List.mem_map.mp hw
  have hk := List.mem_range.mp hk
  match k, hk with
  | 0, _ => exact tb_of (List.mem_append_left _ (List.mem_of_getElem? (i := 95) rfl)) rfl
  | 1, _ => exact tb_of (List.mem_append_left _ (List.mem_of_getElem? (i := 97) rfl)) rfl
  | 2, _ => exact tb_of (List.mem_append_left _ (List.mem_of_getElem? (i := 99) rfl)) rfl
  | 3, _ => exact tb_of (List.mem_append_left _ (List.mem_of_getElem? (i := 101) rfl)) rfl
  | 4, _ => exact tb_of (List.mem_append_left _ (List.mem_of_getElem? (i := 103) rfl)) rfl
  | 5, _ => exact tb_of (List.mem_append_left _ (List.mem_of_getElem? (i := 105) rfl)) rfl
  | 6, _ => exact tb_of (List.mem_append_left _ (List.mem_of_getElem? (i := 107) rfl)) rfl
  | 7, _ => exact tb_of (List.mem_append_left _ (List.mem_of_getElem? (i := 109) rfl)) rfl
  | k + 8, h => exact absurd h (by omega)
theorem inM : ∀ w ∈ u_ws RM TM 20, w ∈ tb := by
  intro w hw
  obtain ⟨k, hk, rfl⟩ := List.mem_map.mp hw
  have hk := List.mem_range.mp hk
  match k, hk with
  | 0, _ => exact tb_of (List.mem_append_right _ (List.mem_append_left _ (List.mem_of_getElem? (i := 174) rfl))) rfl
  | 1, _ => exact tb_of (List.mem_append_right _ (List.mem_append_left _ (List.mem_of_getElem? (i := 176) rfl))) rfl
  | 2, _ => exact tb_of (List.mem_append_right _ (List.mem_append_left _ (List.mem_of_getElem? (i := 178) rfl))) rfl
  | 3, _ => exact tb_of (List.mem_append_right _ (List.mem_append_left _ (List.mem_of_getElem? (i := 180) rfl))) rfl
  | 4, _ => exact tb_of (List.mem_append_right _ (List.mem_append_left _ (List.mem_of_getElem? (i := 182) rfl))) rfl
  | 5, _ => exact tb_of (List.mem_append_right _ (List.mem_append_left _ (List.mem_of_getElem? (i := 184) rfl))) rfl
  | 6, _ => exact tb_of (List.mem_append_right _ (List.mem_append_left _ (List.mem_of_getElem? (i := 186) rfl))) rfl
  | 7, _ => exact tb_of (List.mem_append_right _ (List.mem_append_left _ (List.mem_of_getElem? (i := 188) rfl))) rfl
  | 8, _ => exact tb_of (List.mem_append_right _ (List.mem_append_left _ (List.mem_of_getElem? (i := 190) rfl))) rfl
  | 9, _ => exact tb_of (List.mem_append_right _ (List.mem_append_left _ (List.mem_of_getElem? (i := 192) rfl))) rfl
  | 10, _ => exact tb_of (List.mem_append_right _ (List.mem_append_left _ (List.mem_of_getElem? (i := 194) rfl))) rfl
  | 11, _ => exact tb_of (List.mem_append_right _ (List.mem_append_left _ (List.mem_of_getElem? (i := 196) rfl))) rfl
  | 12, _ => exact tb_of (List.mem_append_right _ (List.mem_append_left _ (List.mem_of_getElem? (i := 198) rfl))) rfl
  | 13, _ => exact tb_of (List.mem_append_right _ (List.mem_append_left _ (List.mem_of_getElem? (i := 200) rfl))) rfl
  | 14, _ => exact tb_of (List.mem_append_right _ (List.mem_append_left _ (List.mem_of_getElem? (i := 202) rfl))) rfl
  | 15, _ => exact tb_of (List.mem_append_right _ (List.mem_append_left _ (List.mem_of_getElem? (i := 204) rfl))) rfl
  | 16, _ => exact tb_of (List.mem_append_right _ (List.mem_append_left _ (List.mem_of_getElem? (i := 206) rfl))) rfl
  | 17, _ => exact tb_of (List.mem_append_right _ (List.mem_append_left _ (List.mem_of_getElem? (i := 208) rfl))) rfl
  | 18, _ => exact tb_of (List.mem_append_right _ (List.mem_append_left _ (List.mem_of_getElem? (i := 210) rfl))) rfl
  | 19, _ => exact tb_of (List.mem_append_right _ (List.mem_append_left _ (List.mem_of_getElem? (i := 212) rfl))) rfl
  | k + 20, h => exact absurd h (by omega)
theorem tb_good : ∀ w ∈ tb, (w.onTables && w.keeps) = true ∨ ∃ ty, w = .arrayClass ty := fun w h => good_of_word (List.mem_filter.mp h).2
theorem tb_in : ∀ w ∈ tb, w ∈ lw_tbl := fun w h => (List.mem_filter.mp h).1
theorem good_C {c : Cond} (h : c ∈ tb) : GoodIn tb (c :: tb) := fun w hw => (List.mem_cons.mp hw).elim (fun e => by subst e; exact ⟨h, tb_good _ h⟩) (fun q => ⟨q, tb_good _ q⟩)
theorem good_V {own C : String} {idx : Nat} {y : MethodName} {c : Cond} (h1 : Cond.methodLink own idx y ∈ tb) (h2 : Cond.instanceMethod y ∈ tb) (h3 : Cond.selects C y y ∈ tb) (h4 : Cond.initialized C ∈ tb) (h : c ∈ tb) : GoodIn tb (wsV own idx C y (c :: tb)) := by
  intro w hw
  unfold wsV at hw
  rcases List.mem_append.mp hw with q | q
  · simp only [List.mem_cons, List.not_mem_nil, or_false] at q
    rcases q with rfl | rfl | rfl | rfl
    · exact ⟨h1, tb_good _ h1⟩
    · exact ⟨h2, tb_good _ h2⟩
    · exact ⟨h3, tb_good _ h3⟩
    · exact ⟨h4, tb_good _ h4⟩
  · exact good_C h w q
theorem good_S {own : String} {idx : Nat} {y : MethodName} {c : Cond} (h1 : Cond.methodLink own idx y ∈ tb) (h2 : Cond.static y ∈ tb) (h3 : Cond.initialized y.cls ∈ tb) (h : c ∈ tb) : GoodIn tb (va_wsS own idx y (c :: tb)) := by
  intro w hw
  unfold va_wsS at hw
  rcases List.mem_append.mp hw with q | q
  · simp only [List.mem_cons, List.not_mem_nil, or_false] at q
    rcases q with rfl | rfl | rfl
    · exact ⟨h1, tb_good _ h1⟩
    · exact ⟨h2, tb_good _ h2⟩
    · exact ⟨h3, tb_good _ h3⟩
  · exact good_C h w q
def wt_nest (U : State) : Prop := va_Nw (Cond.methodLinkNest RG 24 yX_isWordOrEdge RX) U ∧ va_Nw (Cond.methodLinkNest RG 28 yX_isWord RX) U
theorem wt_nest_same {u U : State} (h : u.vm = U.vm) (q : wt_nest u) : wt_nest U := ⟨va_Nw.same rfl h q.1, va_Nw.same rfl h q.2⟩
theorem wt_nest_warm {s U : State} (hW : s.WarmedH U.vm) (q : wt_nest s) : wt_nest U := ⟨va_Nw.warmM hW q.1, va_Nw.warmM hW q.2⟩
