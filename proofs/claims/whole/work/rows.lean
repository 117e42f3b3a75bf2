section
-- ===== PART A: goes FIRST, ahead of the names: the tables' words, and 'selects' of the private methods out of them =====
/-- a private method of a class that the tables say can be made, by its rows of tables_1 -/
def lw_okq (q : MethodName × Nat) : Prop := (q.1.cls ≠ "java/lang/invoke/MethodHandle" ∧ q.1.cls ≠ "java/lang/invoke/VarHandle") ∧ Cond.instantiable q.1.cls q.2 ∈ tables_1 ∧ Cond.privateMethod q.1 ∈ tables_1 ∧ Cond.instanceMethod q.1 ∈ tables_1
theorem lw_p0 : lw_okq (⟨"WordTokenPasser$Tree", "childOf", "(II)I"⟩, 6) := ⟨⟨by decide +kernel, by decide +kernel⟩, List.mem_of_getElem? (i := 19) (by decide +kernel), List.mem_of_getElem? (i := 151) (by decide +kernel), List.mem_of_getElem? (i := 152) (by decide +kernel)⟩
theorem lw_p1 : lw_okq (⟨"WordTokenPasser$Tree", "grow", "(II)I"⟩, 6) := ⟨⟨by decide +kernel, by decide +kernel⟩, List.mem_of_getElem? (i := 19) (by decide +kernel), List.mem_of_getElem? (i := 163) (by decide +kernel), List.mem_of_getElem? (i := 164) (by decide +kernel)⟩
theorem lw_p2 : lw_okq (⟨"WordTokenPasser$Grams", "costOfTwo", "(II)I"⟩, 2) := ⟨⟨by decide +kernel, by decide +kernel⟩, List.mem_of_getElem? (i := 46) (by decide +kernel), List.mem_of_getElem? (i := 213) (by decide +kernel), List.mem_of_getElem? (i := 214) (by decide +kernel)⟩
theorem lw_p3 : lw_okq (⟨"WordTokenPasser", "searchOnce", "()LWordTokenPasser$Search;"⟩, 5) := ⟨⟨by decide +kernel, by decide +kernel⟩, List.mem_of_getElem? (i := 11) (by decide +kernel), List.mem_of_getElem? (i := 268) (by decide +kernel), List.mem_of_getElem? (i := 269) (by decide +kernel)⟩
theorem lw_p4 : lw_okq (⟨"WordTokenPasser$Search", "hear", "(II)V"⟩, 8) := ⟨⟨by decide +kernel, by decide +kernel⟩, List.mem_of_getElem? (i := 81) (by decide +kernel), List.mem_of_getElem? (i := 283) (by decide +kernel), List.mem_of_getElem? (i := 284) (by decide +kernel)⟩
theorem lw_p5 : lw_okq (⟨"WordTokenPasser$Search", "coming", "(III)J"⟩, 8) := ⟨⟨by decide +kernel, by decide +kernel⟩, List.mem_of_getElem? (i := 81) (by decide +kernel), List.mem_of_getElem? (i := 299) (by decide +kernel), List.mem_of_getElem? (i := 300) (by decide +kernel)⟩
theorem lw_p6 : lw_okq (⟨"WordTokenPasser$Search", "leaving", "(III)J"⟩, 8) := ⟨⟨by decide +kernel, by decide +kernel⟩, List.mem_of_getElem? (i := 81) (by decide +kernel), List.mem_of_getElem? (i := 303) (by decide +kernel), List.mem_of_getElem? (i := 304) (by decide +kernel)⟩
theorem lw_p7 : lw_okq (⟨"WordTokenPasser$Search", "endWords", "(I)V"⟩, 8) := ⟨⟨by decide +kernel, by decide +kernel⟩, List.mem_of_getElem? (i := 81) (by decide +kernel), List.mem_of_getElem? (i := 326) (by decide +kernel), List.mem_of_getElem? (i := 327) (by decide +kernel)⟩
theorem lw_p8 : lw_okq (⟨"WordTokenPasser$Search", "measure", "(I)V"⟩, 8) := ⟨⟨by decide +kernel, by decide +kernel⟩, List.mem_of_getElem? (i := 81) (by decide +kernel), List.mem_of_getElem? (i := 338) (by decide +kernel), List.mem_of_getElem? (i := 339) (by decide +kernel)⟩
theorem lw_p9 : lw_okq (⟨"WordTokenPasser$Search", "endPath", "()V"⟩, 8) := ⟨⟨by decide +kernel, by decide +kernel⟩, List.mem_of_getElem? (i := 81) (by decide +kernel), List.mem_of_getElem? (i := 342) (by decide +kernel), List.mem_of_getElem? (i := 343) (by decide +kernel)⟩
theorem lw_p10 : lw_okq (⟨"WordTokenPasser", "isFrameCount", "(I)Z"⟩, 5) := ⟨⟨by decide +kernel, by decide +kernel⟩, List.mem_of_getElem? (i := 11) (by decide +kernel), List.mem_of_getElem? (i := 373) (by decide +kernel), List.mem_of_getElem? (i := 374) (by decide +kernel)⟩
theorem lw_p11 : lw_okq (⟨"WordTokenPasserModel", "fresh", "(II)Z"⟩, 20) := ⟨⟨by decide +kernel, by decide +kernel⟩, List.mem_of_getElem? (i := 389) (by decide +kernel), List.mem_of_getElem? (i := 460) (by decide +kernel), List.mem_of_getElem? (i := 461) (by decide +kernel)⟩
theorem lw_p12 : lw_okq (⟨"WordTokenPasserModel", "begins", "(III)Z"⟩, 20) := ⟨⟨by decide +kernel, by decide +kernel⟩, List.mem_of_getElem? (i := 389) (by decide +kernel), List.mem_of_getElem? (i := 464) (by decide +kernel), List.mem_of_getElem? (i := 465) (by decide +kernel)⟩
theorem lw_p13 : lw_okq (⟨"WordTokenPasserModel", "afterOne", "(II)I"⟩, 20) := ⟨⟨by decide +kernel, by decide +kernel⟩, List.mem_of_getElem? (i := 389) (by decide +kernel), List.mem_of_getElem? (i := 491) (by decide +kernel), List.mem_of_getElem? (i := 492) (by decide +kernel)⟩
theorem lw_p14 : lw_okq (⟨"WordTokenPasserModel", "back", "(I)I"⟩, 20) := ⟨⟨by decide +kernel, by decide +kernel⟩, List.mem_of_getElem? (i := 389) (by decide +kernel), List.mem_of_getElem? (i := 495) (by decide +kernel), List.mem_of_getElem? (i := 496) (by decide +kernel)⟩
theorem lw_p15 : lw_okq (⟨"WordTokenPasserModel", "whole", "()V"⟩, 20) := ⟨⟨by decide +kernel, by decide +kernel⟩, List.mem_of_getElem? (i := 389) (by decide +kernel), List.mem_of_getElem? (i := 523) (by decide +kernel), List.mem_of_getElem? (i := 524) (by decide +kernel)⟩
def lw_privs_1 : List (MethodName × Nat) := [(⟨"WordTokenPasser$Tree", "childOf", "(II)I"⟩, 6), (⟨"WordTokenPasser$Tree", "grow", "(II)I"⟩, 6), (⟨"WordTokenPasser$Grams", "costOfTwo", "(II)I"⟩, 2), (⟨"WordTokenPasser", "searchOnce", "()LWordTokenPasser$Search;"⟩, 5), (⟨"WordTokenPasser$Search", "hear", "(II)V"⟩, 8), (⟨"WordTokenPasser$Search", "coming", "(III)J"⟩, 8), (⟨"WordTokenPasser$Search", "leaving", "(III)J"⟩, 8), (⟨"WordTokenPasser$Search", "endWords", "(I)V"⟩, 8), (⟨"WordTokenPasser$Search", "measure", "(I)V"⟩, 8), (⟨"WordTokenPasser$Search", "endPath", "()V"⟩, 8), (⟨"WordTokenPasser", "isFrameCount", "(I)Z"⟩, 5), (⟨"WordTokenPasserModel", "fresh", "(II)Z"⟩, 20), (⟨"WordTokenPasserModel", "begins", "(III)Z"⟩, 20), (⟨"WordTokenPasserModel", "afterOne", "(II)I"⟩, 20), (⟨"WordTokenPasserModel", "back", "(I)I"⟩, 20), (⟨"WordTokenPasserModel", "whole", "()V"⟩, 20)]
theorem lw_r1 : ∀ q ∈ lw_privs_1, lw_okq q := List.forall_mem_cons.mpr ⟨lw_p0, List.forall_mem_cons.mpr ⟨lw_p1, List.forall_mem_cons.mpr ⟨lw_p2, List.forall_mem_cons.mpr ⟨lw_p3, List.forall_mem_cons.mpr ⟨lw_p4, List.forall_mem_cons.mpr ⟨lw_p5, List.forall_mem_cons.mpr ⟨lw_p6, List.forall_mem_cons.mpr ⟨lw_p7, List.forall_mem_cons.mpr ⟨lw_p8, List.forall_mem_cons.mpr ⟨lw_p9, List.forall_mem_cons.mpr ⟨lw_p10, List.forall_mem_cons.mpr ⟨lw_p11, List.forall_mem_cons.mpr ⟨lw_p12, List.forall_mem_cons.mpr ⟨lw_p13, List.forall_mem_cons.mpr ⟨lw_p14, List.forall_mem_cons.mpr ⟨lw_p15, fun _ h => absurd h List.not_mem_nil⟩⟩⟩⟩⟩⟩⟩⟩⟩⟩⟩⟩⟩⟩⟩⟩
theorem lw_p16 : lw_okq (⟨"WordTokenPasserModel", "run", "(I)V"⟩, 20) := ⟨⟨by decide +kernel, by decide +kernel⟩, List.mem_of_getElem? (i := 389) (by decide +kernel), List.mem_of_getElem? (i := 527) (by decide +kernel), List.mem_of_getElem? (i := 528) (by decide +kernel)⟩
theorem lw_p17 : lw_okq (⟨"WordTokenPasserModel", "clear", "()V"⟩, 20) := ⟨⟨by decide +kernel, by decide +kernel⟩, List.mem_of_getElem? (i := 389) (by decide +kernel), List.mem_of_getElem? (i := 531) (by decide +kernel), List.mem_of_getElem? (i := 532) (by decide +kernel)⟩
theorem lw_p18 : lw_okq (⟨"WordTokenPasserModel", "come", "(IIIIIII)V"⟩, 20) := ⟨⟨by decide +kernel, by decide +kernel⟩, List.mem_of_getElem? (i := 389) (by decide +kernel), List.mem_of_getElem? (i := 535) (by decide +kernel), List.mem_of_getElem? (i := 536) (by decide +kernel)⟩
theorem lw_p19 : lw_okq (⟨"WordTokenPasserModel", "take", "()V"⟩, 20) := ⟨⟨by decide +kernel, by decide +kernel⟩, List.mem_of_getElem? (i := 389) (by decide +kernel), List.mem_of_getElem? (i := 539) (by decide +kernel), List.mem_of_getElem? (i := 540) (by decide +kernel)⟩
theorem lw_p20 : lw_okq (⟨"WordTokenPasserModel", "go", "(II)V"⟩, 20) := ⟨⟨by decide +kernel, by decide +kernel⟩, List.mem_of_getElem? (i := 389) (by decide +kernel), List.mem_of_getElem? (i := 543) (by decide +kernel), List.mem_of_getElem? (i := 544) (by decide +kernel)⟩
def lw_privs_2 : List (MethodName × Nat) := [(⟨"WordTokenPasserModel", "run", "(I)V"⟩, 20), (⟨"WordTokenPasserModel", "clear", "()V"⟩, 20), (⟨"WordTokenPasserModel", "come", "(IIIIIII)V"⟩, 20), (⟨"WordTokenPasserModel", "take", "()V"⟩, 20), (⟨"WordTokenPasserModel", "go", "(II)V"⟩, 20)]
theorem lw_r2 : ∀ q ∈ lw_privs_2, lw_okq q := List.forall_mem_cons.mpr ⟨lw_p16, List.forall_mem_cons.mpr ⟨lw_p17, List.forall_mem_cons.mpr ⟨lw_p18, List.forall_mem_cons.mpr ⟨lw_p19, List.forall_mem_cons.mpr ⟨lw_p20, fun _ h => absurd h List.not_mem_nil⟩⟩⟩⟩⟩
def lw_privs : List (MethodName × Nat) := lw_privs_1 ++ (lw_privs_2)
def lw_tbl : List Cond := k2_sels lw_privs ++ tables_1
theorem lw_privs_ok : ∀ q ∈ lw_privs, lw_okq q := by
  show ∀ q ∈ lw_privs_1 ++ (lw_privs_2), lw_okq q
  exact List.forall_mem_append.mpr ⟨lw_r1, lw_r2⟩
end
section
def RX : String := "WordTokenPasser"
def RT : String := "WordTokenPasser$Tree"
def RG : String := "WordTokenPasser$Grams"
def RS : String := "WordTokenPasser$Sounds"
def RQ : String := "WordTokenPasser$Search"
def RK : String := "WordTokenPasser$Token"
def RM : String := "WordTokenPasserModel"
def RJ : String := "java/util/Arrays"
def RA : String := "java/lang/Math"
def RL : String := "WordTokenPasserLaw"
def RO : String := "java/lang/Object"
def TX : u_T := fun k => match k with
  | 0 => ("WordTokenPasser", "tree", "LWordTokenPasser$Tree;", true)
  | 1 => ("WordTokenPasser", "grams", "LWordTokenPasser$Grams;", true)
  | 2 => ("WordTokenPasser", "sounds", "LWordTokenPasser$Sounds;", true)
  | 3 => ("WordTokenPasser", "search", "LWordTokenPasser$Search;", true)
  | _ => ("WordTokenPasser", "searched", "Z", false)
def tyX : Nat → FieldType := fun k => match k with
  | 0 => .object "WordTokenPasser$Tree"
  | 1 => .object "WordTokenPasser$Grams"
  | 2 => .object "WordTokenPasser$Sounds"
  | 3 => .object "WordTokenPasser$Search"
  | _ => .boolean
theorem nmX : ∀ a, a < 5 → ∀ b, b < 5 → a ≠ b → (TX a).2.1 ≠ (TX b).2.1 := by decide +kernel
theorem tyX_ok : ∀ k, k < 5 → parseFieldDescriptor (TX k).2.2.1 = some (tyX k) := by decide +kernel
def TT : u_T := fun k => match k with
  | 0 => ("WordTokenPasser$Tree", "phones", "[I", true)
  | 1 => ("WordTokenPasser$Tree", "parents", "[I", true)
  | 2 => ("WordTokenPasser$Tree", "children", "[I", true)
  | 3 => ("WordTokenPasser$Tree", "endings", "[Z", true)
  | 4 => ("WordTokenPasser$Tree", "size", "I", false)
  | _ => ("WordTokenPasser$Tree", "pronunciations", "I", false)
def tyT : Nat → FieldType := fun k => match k with
  | 0 => .array .int
  | 1 => .array .int
  | 2 => .array .int
  | 3 => .array .boolean
  | 4 => .int
  | _ => .int
theorem nmT : ∀ a, a < 6 → ∀ b, b < 6 → a ≠ b → (TT a).2.1 ≠ (TT b).2.1 := by decide +kernel
theorem tyT_ok : ∀ k, k < 6 → parseFieldDescriptor (TT k).2.2.1 = some (tyT k) := by decide +kernel
def TG : u_T := fun k => match k with
  | 0 => ("WordTokenPasser$Grams", "costs", "[I", true)
  | _ => ("WordTokenPasser$Grams", "backoffs", "[I", true)
def tyG : Nat → FieldType := fun k => match k with
  | 0 => .array .int
  | _ => .array .int
theorem nmG : ∀ a, a < 2 → ∀ b, b < 2 → a ≠ b → (TG a).2.1 ≠ (TG b).2.1 := by decide +kernel
theorem tyG_ok : ∀ k, k < 2 → parseFieldDescriptor (TG k).2.2.1 = some (tyG k) := by decide +kernel
def TS : u_T := fun k => match k with
  | 0 => ("WordTokenPasser$Sounds", "costs", "[I", true)
  | 1 => ("WordTokenPasser$Sounds", "holds", "[I", true)
  | 2 => ("WordTokenPasser$Sounds", "leaves", "[I", true)
  | _ => ("WordTokenPasser$Sounds", "count", "I", false)
def tyS : Nat → FieldType := fun k => match k with
  | 0 => .array .int
  | 1 => .array .int
  | 2 => .array .int
  | _ => .int
theorem nmS : ∀ a, a < 4 → ∀ b, b < 4 → a ≠ b → (TS a).2.1 ≠ (TS b).2.1 := by decide +kernel
theorem tyS_ok : ∀ k, k < 4 → parseFieldDescriptor (TS k).2.2.1 = some (tyS k) := by decide +kernel
def TQ : u_T := fun k => match k with
  | 0 => ("WordTokenPasser$Search", "tree", "LWordTokenPasser$Tree;", true)
  | 1 => ("WordTokenPasser$Search", "grams", "LWordTokenPasser$Grams;", true)
  | 2 => ("WordTokenPasser$Search", "sounds", "LWordTokenPasser$Sounds;", true)
  | 3 => ("WordTokenPasser$Search", "tokens", "[J", true)
  | 4 => ("WordTokenPasser$Search", "waiting", "[J", true)
  | 5 => ("WordTokenPasser$Search", "placeCounts", "[I", true)
  | 6 => ("WordTokenPasser$Search", "leastTokens", "[J", true)
  | _ => ("WordTokenPasser$Search", "wholePath", "J", false)
def tyQ : Nat → FieldType := fun k => match k with
  | 0 => .object "WordTokenPasser$Tree"
  | 1 => .object "WordTokenPasser$Grams"
  | 2 => .object "WordTokenPasser$Sounds"
  | 3 => .array .long
  | 4 => .array .long
  | 5 => .array .int
  | 6 => .array .long
  | _ => .long
theorem nmQ : ∀ a, a < 8 → ∀ b, b < 8 → a ≠ b → (TQ a).2.1 ≠ (TQ b).2.1 := by decide +kernel
theorem tyQ_ok : ∀ k, k < 8 → parseFieldDescriptor (TQ k).2.2.1 = some (tyQ k) := by decide +kernel
def TM : u_T := fun k => match k with
  | 0 => ("WordTokenPasserModel", "known", "[Z", false)
  | 1 => ("WordTokenPasserModel", "cost", "[I", false)
  | 2 => ("WordTokenPasserModel", "backoff", "[I", false)
  | 3 => ("WordTokenPasserModel", "many", "I", false)
  | 4 => ("WordTokenPasserModel", "word", "[I", false)
  | 5 => ("WordTokenPasserModel", "size", "[I", false)
  | 6 => ("WordTokenPasserModel", "phone", "[I", false)
  | 7 => ("WordTokenPasserModel", "hold", "[I", false)
  | 8 => ("WordTokenPasserModel", "leave", "[I", false)
  | 9 => ("WordTokenPasserModel", "frames", "I", false)
  | 10 => ("WordTokenPasserModel", "sound", "[I", false)
  | 11 => ("WordTokenPasserModel", "least", "[I", false)
  | 12 => ("WordTokenPasserModel", "done", "[I", false)
  | 13 => ("WordTokenPasserModel", "code", "[I", false)
  | 14 => ("WordTokenPasserModel", "next", "[I", false)
  | 15 => ("WordTokenPasserModel", "nextDone", "[I", false)
  | 16 => ("WordTokenPasserModel", "nextCode", "[I", false)
  | 17 => ("WordTokenPasserModel", "all", "I", false)
  | 18 => ("WordTokenPasserModel", "words", "I", false)
  | _ => ("WordTokenPasserModel", "which", "I", false)
def tyM : Nat → FieldType := fun k => match k with
  | 0 => .array .boolean
  | 1 => .array .int
  | 2 => .array .int
  | 3 => .int
  | 4 => .array .int
  | 5 => .array .int
  | 6 => .array .int
  | 7 => .array .int
  | 8 => .array .int
  | 9 => .int
  | 10 => .array .int
  | 11 => .array .int
  | 12 => .array .int
  | 13 => .array .int
  | 14 => .array .int
  | 15 => .array .int
  | 16 => .array .int
  | 17 => .int
  | 18 => .int
  | _ => .int
theorem nmM : ∀ a, a < 20 → ∀ b, b < 20 → a ≠ b → (TM a).2.1 ≠ (TM b).2.1 := by decide +kernel
theorem tyM_ok : ∀ k, k < 20 → parseFieldDescriptor (TM k).2.2.1 = some (tyM k) := by decide +kernel
abbrev vwCl : List vw_C := [(RX, TX, 5), (RT, TT, 6), (RG, TG, 2), (RS, TS, 4), (RQ, TQ, 8), (RM, TM, 20)]
abbrev cX_init : ByteArray := prog_1_method_1_code
def yX_init : MethodName := ⟨RX, "<init>", "()V"⟩
abbrev cT_init : ByteArray := prog_6_method_1_code
def yT_init : MethodName := ⟨RT, "<init>", "()V"⟩
abbrev cG_init : ByteArray := prog_2_method_1_code
def yG_init : MethodName := ⟨RG, "<init>", "()V"⟩
abbrev cJ_fillI : ByteArray := prog_10_method_103_code
def yJ_fillI : MethodName := ⟨RJ, "fill", "([II)V"⟩
abbrev cS_init : ByteArray := prog_4_method_1_code
def yS_init : MethodName := ⟨RS, "<init>", "()V"⟩
abbrev cQ_init : ByteArray := prog_3_method_1_code
def yQ_init : MethodName := ⟨RQ, "<init>", "(LWordTokenPasser$Tree;LWordTokenPasser$Grams;LWordTokenPasser$Sounds;)V"⟩
abbrev cX_say : ByteArray := prog_1_method_2_code
def yX_say : MethodName := ⟨RX, "say", "(IIII)I"⟩
abbrev cX_isWord : ByteArray := prog_1_method_19_code
def yX_isWord : MethodName := ⟨RX, "isWord", "(I)Z"⟩
abbrev cX_isPronunciation : ByteArray := prog_1_method_24_code
def yX_isPronunciation : MethodName := ⟨RX, "isPronunciation", "(III)Z"⟩
abbrev cX_isPhone : ByteArray := prog_1_method_21_code
def yX_isPhone : MethodName := ⟨RX, "isPhone", "(I)Z"⟩
abbrev cT_isFull : ByteArray := prog_6_method_3_code
def yT_isFull : MethodName := ⟨RT, "isFull", "()Z"⟩
abbrev cT_has : ByteArray := prog_6_method_7_code
def yT_has : MethodName := ⟨RT, "has", "(IIII)Z"⟩
abbrev cT_childOf : ByteArray := prog_6_method_9_code
def yT_childOf : MethodName := ⟨RT, "childOf", "(II)I"⟩
abbrev cT_endsWord : ByteArray := prog_6_method_6_code
def yT_endsWord : MethodName := ⟨RT, "endsWord", "(II)Z"⟩
abbrev cT_add : ByteArray := prog_6_method_8_code
def yT_add : MethodName := ⟨RT, "add", "(IIII)V"⟩
abbrev cT_grow : ByteArray := prog_6_method_10_code
def yT_grow : MethodName := ⟨RT, "grow", "(II)I"⟩
abbrev cT_size : ByteArray := prog_6_method_2_code
def yT_size : MethodName := ⟨RT, "size", "()I"⟩
abbrev cX_gram : ByteArray := prog_1_method_3_code
def yX_gram : MethodName := ⟨RX, "gram", "(IIIII)Z"⟩
abbrev cG_isGram : ByteArray := prog_2_method_2_code
def yG_isGram : MethodName := ⟨RG, "isGram", "(III)Z"⟩
abbrev cX_isWordOrEdge : ByteArray := prog_1_method_20_code
def yX_isWordOrEdge : MethodName := ⟨RX, "isWordOrEdge", "(I)Z"⟩
abbrev cX_isCost : ByteArray := prog_1_method_23_code
def yX_isCost : MethodName := ⟨RX, "isCost", "(I)Z"⟩
abbrev cG_put : ByteArray := prog_2_method_4_code
def yG_put : MethodName := ⟨RG, "put", "(IIIII)V"⟩
abbrev cG_slot : ByteArray := prog_2_method_8_code
def yG_slot : MethodName := ⟨RG, "slot", "(III)I"⟩
abbrev cX_ungram : ByteArray := prog_1_method_4_code
def yX_ungram : MethodName := ⟨RX, "ungram", "(III)Z"⟩
abbrev cG_has : ByteArray := prog_2_method_3_code
def yG_has : MethodName := ⟨RG, "has", "(III)Z"⟩
abbrev cG_remove : ByteArray := prog_2_method_5_code
def yG_remove : MethodName := ⟨RG, "remove", "(III)V"⟩
abbrev cX_after : ByteArray := prog_1_method_5_code
def yX_after : MethodName := ⟨RX, "after", "(III)I"⟩
abbrev cG_costAfter : ByteArray := prog_2_method_6_code
def yG_costAfter : MethodName := ⟨RG, "costAfter", "(III)I"⟩
abbrev cG_costOfTwo : ByteArray := prog_2_method_7_code
def yG_costOfTwo : MethodName := ⟨RG, "costOfTwo", "(II)I"⟩
abbrev cX_topology : ByteArray := prog_1_method_6_code
def yX_topology : MethodName := ⟨RX, "topology", "(III)Z"⟩
abbrev cX_isState : ByteArray := prog_1_method_22_code
def yX_isState : MethodName := ⟨RX, "isState", "(I)Z"⟩
abbrev cS_setTopology : ByteArray := prog_4_method_7_code
def yS_setTopology : MethodName := ⟨RS, "setTopology", "(III)V"⟩
abbrev cX_frame : ByteArray := prog_1_method_7_code
def yX_frame : MethodName := ⟨RX, "frame", "()I"⟩
abbrev cS_count : ByteArray := prog_4_method_2_code
def yS_count : MethodName := ⟨RS, "count", "()I"⟩
abbrev cS_addFrame : ByteArray := prog_4_method_3_code
def yS_addFrame : MethodName := ⟨RS, "addFrame", "()V"⟩
abbrev cX_drop : ByteArray := prog_1_method_8_code
def yX_drop : MethodName := ⟨RX, "drop", "()Z"⟩
abbrev cS_removeFrame : ByteArray := prog_4_method_4_code
def yS_removeFrame : MethodName := ⟨RS, "removeFrame", "()V"⟩
abbrev cX_sound : ByteArray := prog_1_method_9_code
def yX_sound : MethodName := ⟨RX, "sound", "(IIII)Z"⟩
abbrev cS_setCost : ByteArray := prog_4_method_5_code
def yS_setCost : MethodName := ⟨RS, "setCost", "(IIII)V"⟩
abbrev cX_frames : ByteArray := prog_1_method_10_code
def yX_frames : MethodName := ⟨RX, "frames", "()I"⟩
abbrev cX_nodes : ByteArray := prog_1_method_11_code
def yX_nodes : MethodName := ⟨RX, "nodes", "()I"⟩
abbrev cX_total : ByteArray := prog_1_method_12_code
def yX_total : MethodName := ⟨RX, "total", "()I"⟩
abbrev cX_searchOnce : ByteArray := prog_1_method_17_code
def yX_searchOnce : MethodName := ⟨RX, "searchOnce", "()LWordTokenPasser$Search;"⟩
abbrev cQ_run : ByteArray := prog_3_method_5_code
def yQ_run : MethodName := ⟨RQ, "run", "()V"⟩
abbrev cJ_fillL : ByteArray := prog_10_method_101_code
def yJ_fillL : MethodName := ⟨RJ, "fill", "([JJ)V"⟩
abbrev cQ_context : ByteArray := prog_3_method_12_code
def yQ_context : MethodName := ⟨RQ, "context", "(II)I"⟩
abbrev cQ_hear : ByteArray := prog_3_method_6_code
def yQ_hear : MethodName := ⟨RQ, "hear", "(II)V"⟩
abbrev cQ_place : ByteArray := prog_3_method_13_code
def yQ_place : MethodName := ⟨RQ, "place", "(III)I"⟩
abbrev cS_holdOf : ByteArray := prog_4_method_8_code
def yS_holdOf : MethodName := ⟨RS, "holdOf", "(I)I"⟩
abbrev cK_plusCost : ByteArray := prog_5_method_2_code
def yK_plusCost : MethodName := ⟨RK, "plusCost", "(JI)J"⟩
abbrev cQ_coming : ByteArray := prog_3_method_7_code
def yQ_coming : MethodName := ⟨RQ, "coming", "(III)J"⟩
abbrev cQ_leaving : ByteArray := prog_3_method_8_code
def yQ_leaving : MethodName := ⟨RQ, "leaving", "(III)J"⟩
abbrev cS_leaveOf : ByteArray := prog_4_method_9_code
def yS_leaveOf : MethodName := ⟨RS, "leaveOf", "(I)I"⟩
abbrev cT_parentOf : ByteArray := prog_6_method_5_code
def yT_parentOf : MethodName := ⟨RT, "parentOf", "(I)I"⟩
abbrev cA_min : ByteArray := prog_9_method_70_code
def yA_min : MethodName := ⟨RA, "min", "(JJ)J"⟩
abbrev cT_phoneOf : ByteArray := prog_6_method_4_code
def yT_phoneOf : MethodName := ⟨RT, "phoneOf", "(I)I"⟩
abbrev cS_costOf : ByteArray := prog_4_method_6_code
def yS_costOf : MethodName := ⟨RS, "costOf", "(III)I"⟩
abbrev cQ_endWords : ByteArray := prog_3_method_9_code
def yQ_endWords : MethodName := ⟨RQ, "endWords", "(I)V"⟩
abbrev cK_plusWord : ByteArray := prog_5_method_3_code
def yK_plusWord : MethodName := ⟨RK, "plusWord", "(JI)J"⟩
abbrev cQ_measure : ByteArray := prog_3_method_10_code
def yQ_measure : MethodName := ⟨RQ, "measure", "(I)V"⟩
abbrev cQ_endPath : ByteArray := prog_3_method_11_code
def yQ_endPath : MethodName := ⟨RQ, "endPath", "()V"⟩
abbrev cQ_wholePath : ByteArray := prog_3_method_4_code
def yQ_wholePath : MethodName := ⟨RQ, "wholePath", "()J"⟩
abbrev cK_costOf : ByteArray := prog_5_method_4_code
def yK_costOf : MethodName := ⟨RK, "costOf", "(J)I"⟩
abbrev cX_length : ByteArray := prog_1_method_13_code
def yX_length : MethodName := ⟨RX, "length", "()I"⟩
abbrev cK_countOf : ByteArray := prog_5_method_5_code
def yK_countOf : MethodName := ⟨RK, "countOf", "(J)I"⟩
abbrev cX_wordAt : ByteArray := prog_1_method_14_code
def yX_wordAt : MethodName := ⟨RX, "wordAt", "(I)I"⟩
abbrev cK_wordOf : ByteArray := prog_5_method_6_code
def yK_wordOf : MethodName := ⟨RK, "wordOf", "(JI)I"⟩
abbrev cX_live : ByteArray := prog_1_method_15_code
def yX_live : MethodName := ⟨RX, "live", "(I)I"⟩
abbrev cX_isFrameCount : ByteArray := prog_1_method_18_code
def yX_isFrameCount : MethodName := ⟨RX, "isFrameCount", "(I)Z"⟩
abbrev cQ_placesAfter : ByteArray := prog_3_method_2_code
def yQ_placesAfter : MethodName := ⟨RQ, "placesAfter", "(I)I"⟩
abbrev cX_best : ByteArray := prog_1_method_16_code
def yX_best : MethodName := ⟨RX, "best", "(I)I"⟩
abbrev cQ_leastAfter : ByteArray := prog_3_method_3_code
def yQ_leastAfter : MethodName := ⟨RQ, "leastAfter", "(I)J"⟩
abbrev cM_init : ByteArray := prog_8_method_1_code
def yM_init : MethodName := ⟨RM, "<init>", "()V"⟩
abbrev cM_nodes : ByteArray := prog_8_method_5_code
def yM_nodes : MethodName := ⟨RM, "nodes", "()I"⟩
abbrev cM_fresh : ByteArray := prog_8_method_4_code
def yM_fresh : MethodName := ⟨RM, "fresh", "(II)Z"⟩
abbrev cM_begins : ByteArray := prog_8_method_3_code
def yM_begins : MethodName := ⟨RM, "begins", "(III)Z"⟩
abbrev cM_say : ByteArray := prog_8_method_6_code
def yM_say : MethodName := ⟨RM, "say", "(IIII)I"⟩
abbrev cM_up : ByteArray := prog_8_method_2_code
def yM_up : MethodName := ⟨RM, "up", "(II)Z"⟩
abbrev cM_gram : ByteArray := prog_8_method_8_code
def yM_gram : MethodName := ⟨RM, "gram", "(IIIII)Z"⟩
abbrev cM_slot : ByteArray := prog_8_method_7_code
def yM_slot : MethodName := ⟨RM, "slot", "(III)I"⟩
abbrev cM_ungram : ByteArray := prog_8_method_9_code
def yM_ungram : MethodName := ⟨RM, "ungram", "(III)Z"⟩
abbrev cM_after : ByteArray := prog_8_method_12_code
def yM_after : MethodName := ⟨RM, "after", "(III)I"⟩
abbrev cM_afterOne : ByteArray := prog_8_method_11_code
def yM_afterOne : MethodName := ⟨RM, "afterOne", "(II)I"⟩
abbrev cM_back : ByteArray := prog_8_method_10_code
def yM_back : MethodName := ⟨RM, "back", "(I)I"⟩
abbrev cM_topology : ByteArray := prog_8_method_13_code
def yM_topology : MethodName := ⟨RM, "topology", "(III)Z"⟩
abbrev cM_frame : ByteArray := prog_8_method_14_code
def yM_frame : MethodName := ⟨RM, "frame", "()I"⟩
abbrev cM_drop : ByteArray := prog_8_method_15_code
def yM_drop : MethodName := ⟨RM, "drop", "()Z"⟩
abbrev cM_sound : ByteArray := prog_8_method_16_code
def yM_sound : MethodName := ⟨RM, "sound", "(IIII)Z"⟩
abbrev cM_frames : ByteArray := prog_8_method_17_code
def yM_frames : MethodName := ⟨RM, "frames", "()I"⟩
abbrev cM_total : ByteArray := prog_8_method_24_code
def yM_total : MethodName := ⟨RM, "total", "()I"⟩
abbrev cM_whole : ByteArray := prog_8_method_23_code
def yM_whole : MethodName := ⟨RM, "whole", "()V"⟩
abbrev cM_run : ByteArray := prog_8_method_22_code
def yM_run : MethodName := ⟨RM, "run", "(I)V"⟩
abbrev cM_clear : ByteArray := prog_8_method_19_code
def yM_clear : MethodName := ⟨RM, "clear", "()V"⟩
abbrev cM_come : ByteArray := prog_8_method_18_code
def yM_come : MethodName := ⟨RM, "come", "(IIIIIII)V"⟩
abbrev cM_take : ByteArray := prog_8_method_20_code
def yM_take : MethodName := ⟨RM, "take", "()V"⟩
abbrev cM_go : ByteArray := prog_8_method_21_code
def yM_go : MethodName := ⟨RM, "go", "(II)V"⟩
abbrev cM_length : ByteArray := prog_8_method_25_code
def yM_length : MethodName := ⟨RM, "length", "()I"⟩
abbrev cM_wordAt : ByteArray := prog_8_method_26_code
def yM_wordAt : MethodName := ⟨RM, "wordAt", "(I)I"⟩
abbrev cM_live : ByteArray := prog_8_method_27_code
def yM_live : MethodName := ⟨RM, "live", "(I)I"⟩
abbrev cM_best : ByteArray := prog_8_method_28_code
def yM_best : MethodName := ⟨RM, "best", "(I)I"⟩
/-- the tables' words that a call may hand on -/
def tb : List Cond := lw_tbl.filter goodWord
theorem tb_of {w : Cond} (h : w ∈ tables_1) (g : goodWord w = true) : w ∈ tb := List.mem_filter.mpr ⟨List.mem_append_right _ h, g⟩
theorem tb_sel {w : Cond} (h : w ∈ k2_sels lw_privs) (g : goodWord w = true) : w ∈ tb := List.mem_filter.mpr ⟨List.mem_append_left _ h, g⟩
theorem m_0 : Cond.initialized RL ∈ tb := tb_of (List.mem_append_left _ (List.mem_of_getElem? (i := 0) rfl)) rfl
theorem m_1 : Cond.initialized RX ∈ tb := tb_of (List.mem_append_left _ (List.mem_of_getElem? (i := 1) rfl)) rfl
theorem m_2 : Cond.initialized RT ∈ tb := tb_of (List.mem_append_left _ (List.mem_of_getElem? (i := 2) rfl)) rfl
theorem m_3 : Cond.initialized RG ∈ tb := tb_of (List.mem_append_left _ (List.mem_of_getElem? (i := 3) rfl)) rfl
theorem m_4 : Cond.initialized RJ ∈ tb := tb_of (List.mem_append_left _ (List.mem_of_getElem? (i := 4) rfl)) rfl
theorem m_5 : Cond.initialized RS ∈ tb := tb_of (List.mem_append_left _ (List.mem_of_getElem? (i := 5) rfl)) rfl
theorem m_6 : Cond.initialized RQ ∈ tb := tb_of (List.mem_append_left _ (List.mem_of_getElem? (i := 6) rfl)) rfl
theorem m_7 : Cond.initialized RM ∈ tb := tb_of (List.mem_append_left _ (List.mem_of_getElem? (i := 7) rfl)) rfl
theorem m_8 : Cond.initialized RK ∈ tb := tb_of (List.mem_append_left _ (List.mem_of_getElem? (i := 8) rfl)) rfl
theorem m_9 : Cond.initialized RA ∈ tb := tb_of (List.mem_append_left _ (List.mem_of_getElem? (i := 9) rfl)) rfl
theorem m_10 : Cond.classLink RL 7 RX ∈ tb := tb_of (List.mem_append_left _ (List.mem_of_getElem? (i := 10) rfl)) rfl
theorem m_11 : Cond.instantiable RX 5 ∈ tb := tb_of (List.mem_append_left _ (List.mem_of_getElem? (i := 11) rfl)) rfl
theorem m_12 : Cond.methodLink RL 9 yX_init ∈ tb := tb_of (List.mem_append_left _ (List.mem_of_getElem? (i := 12) rfl)) rfl
theorem m_13 : Cond.instanceMethod yX_init ∈ tb := tb_of (List.mem_append_left _ (List.mem_of_getElem? (i := 13) rfl)) rfl
theorem m_14 : Cond.code yX_init cX_init 1 none ∈ tb := tb_of (List.mem_append_left _ (List.mem_of_getElem? (i := 14) rfl)) rfl
theorem m_15 : Cond.methodLink RX 3 objectInit ∈ tb := tb_of (List.mem_append_left _ (List.mem_of_getElem? (i := 15) rfl)) rfl
theorem m_16 : Cond.instanceMethod objectInit ∈ tb := tb_of (List.mem_append_left _ (List.mem_of_getElem? (i := 16) rfl)) rfl
theorem m_17 : Cond.code objectInit ⟨#[0xb1]⟩ 1 none ∈ tb := tb_of (List.mem_append_left _ (List.mem_of_getElem? (i := 17) rfl)) rfl
theorem m_18 : Cond.classLink RX 9 RT ∈ tb := tb_of (List.mem_append_left _ (List.mem_of_getElem? (i := 18) rfl)) rfl
theorem m_19 : Cond.instantiable RT 6 ∈ tb := tb_of (List.mem_append_left _ (List.mem_of_getElem? (i := 19) rfl)) rfl
theorem m_20 : Cond.methodLink RX 11 yT_init ∈ tb := tb_of (List.mem_append_left _ (List.mem_of_getElem? (i := 20) rfl)) rfl
theorem m_21 : Cond.instanceMethod yT_init ∈ tb := tb_of (List.mem_append_left _ (List.mem_of_getElem? (i := 21) rfl)) rfl
theorem m_22 : Cond.code yT_init cT_init 1 none ∈ tb := tb_of (List.mem_append_left _ (List.mem_of_getElem? (i := 22) rfl)) rfl
theorem m_23 : Cond.methodLink RT 5 objectInit ∈ tb := tb_of (List.mem_append_left _ (List.mem_of_getElem? (i := 23) rfl)) rfl
theorem m_24 : Cond.fieldLink RT 11 "WordTokenPasser$Tree" "phones" "[I" ∈ tb := tb_of (List.mem_append_left _ (List.mem_of_getElem? (i := 24) rfl)) rfl
theorem m_25 : Cond.fieldLink RT 15 "WordTokenPasser$Tree" "parents" "[I" ∈ tb := tb_of (List.mem_append_left _ (List.mem_of_getElem? (i := 25) rfl)) rfl
theorem m_26 : Cond.fieldLink RT 18 "WordTokenPasser$Tree" "children" "[I" ∈ tb := tb_of (List.mem_append_left _ (List.mem_of_getElem? (i := 26) rfl)) rfl
theorem m_27 : Cond.fieldLink RT 21 "WordTokenPasser$Tree" "endings" "[Z" ∈ tb := tb_of (List.mem_append_left _ (List.mem_of_getElem? (i := 27) rfl)) rfl
theorem m_28 : Cond.fieldLink RT 25 "WordTokenPasser$Tree" "size" "I" ∈ tb := tb_of (List.mem_append_left _ (List.mem_of_getElem? (i := 28) rfl)) rfl
theorem m_29 : Cond.fieldLink RT 29 "WordTokenPasser$Tree" "pronunciations" "I" ∈ tb := tb_of (List.mem_append_left _ (List.mem_of_getElem? (i := 29) rfl)) rfl
theorem m_43 : Cond.arrayClass .int ∈ tb := tb_of (List.mem_append_left _ (List.mem_of_getElem? (i := 43) rfl)) rfl
theorem m_44 : Cond.arrayClass .boolean ∈ tb := tb_of (List.mem_append_left _ (List.mem_of_getElem? (i := 44) rfl)) rfl
theorem m_45 : Cond.classLink RX 16 RG ∈ tb := tb_of (List.mem_append_left _ (List.mem_of_getElem? (i := 45) rfl)) rfl
theorem m_46 : Cond.instantiable RG 2 ∈ tb := tb_of (List.mem_append_left _ (List.mem_of_getElem? (i := 46) rfl)) rfl
theorem m_47 : Cond.methodLink RX 18 yG_init ∈ tb := tb_of (List.mem_append_left _ (List.mem_of_getElem? (i := 47) rfl)) rfl
theorem m_48 : Cond.instanceMethod yG_init ∈ tb := tb_of (List.mem_append_left _ (List.mem_of_getElem? (i := 48) rfl)) rfl
theorem m_49 : Cond.code yG_init cG_init 1 none ∈ tb := tb_of (List.mem_append_left _ (List.mem_of_getElem? (i := 49) rfl)) rfl
theorem m_50 : Cond.methodLink RG 3 objectInit ∈ tb := tb_of (List.mem_append_left _ (List.mem_of_getElem? (i := 50) rfl)) rfl
theorem m_51 : Cond.methodLink RG 18 yJ_fillI ∈ tb := tb_of (List.mem_append_left _ (List.mem_of_getElem? (i := 51) rfl)) rfl
theorem m_52 : Cond.static yJ_fillI ∈ tb := tb_of (List.mem_append_left _ (List.mem_of_getElem? (i := 52) rfl)) rfl
theorem m_53 : Cond.code yJ_fillI cJ_fillI 4 none ∈ tb := tb_of (List.mem_append_left _ (List.mem_of_getElem? (i := 53) rfl)) rfl
theorem m_54 : Cond.fieldLink RG 11 "WordTokenPasser$Grams" "costs" "[I" ∈ tb := tb_of (List.mem_append_left _ (List.mem_of_getElem? (i := 54) rfl)) rfl
theorem m_55 : Cond.fieldLink RG 15 "WordTokenPasser$Grams" "backoffs" "[I" ∈ tb := tb_of (List.mem_append_left _ (List.mem_of_getElem? (i := 55) rfl)) rfl
theorem m_61 : Cond.classLink RX 23 RS ∈ tb := tb_of (List.mem_append_left _ (List.mem_of_getElem? (i := 61) rfl)) rfl
theorem m_62 : Cond.instantiable RS 4 ∈ tb := tb_of (List.mem_append_left _ (List.mem_of_getElem? (i := 62) rfl)) rfl
theorem m_63 : Cond.methodLink RX 25 yS_init ∈ tb := tb_of (List.mem_append_left _ (List.mem_of_getElem? (i := 63) rfl)) rfl
theorem m_64 : Cond.instanceMethod yS_init ∈ tb := tb_of (List.mem_append_left _ (List.mem_of_getElem? (i := 64) rfl)) rfl
theorem m_65 : Cond.code yS_init cS_init 1 none ∈ tb := tb_of (List.mem_append_left _ (List.mem_of_getElem? (i := 65) rfl)) rfl
theorem m_66 : Cond.methodLink RS 3 objectInit ∈ tb := tb_of (List.mem_append_left _ (List.mem_of_getElem? (i := 66) rfl)) rfl
theorem m_67 : Cond.fieldLink RS 11 "WordTokenPasser$Sounds" "costs" "[I" ∈ tb := tb_of (List.mem_append_left _ (List.mem_of_getElem? (i := 67) rfl)) rfl
theorem m_68 : Cond.fieldLink RS 15 "WordTokenPasser$Sounds" "holds" "[I" ∈ tb := tb_of (List.mem_append_left _ (List.mem_of_getElem? (i := 68) rfl)) rfl
theorem m_69 : Cond.fieldLink RS 18 "WordTokenPasser$Sounds" "leaves" "[I" ∈ tb := tb_of (List.mem_append_left _ (List.mem_of_getElem? (i := 69) rfl)) rfl
theorem m_70 : Cond.fieldLink RS 21 "WordTokenPasser$Sounds" "count" "I" ∈ tb := tb_of (List.mem_append_left _ (List.mem_of_getElem? (i := 70) rfl)) rfl
theorem m_80 : Cond.classLink RX 30 RQ ∈ tb := tb_of (List.mem_append_left _ (List.mem_of_getElem? (i := 80) rfl)) rfl
theorem m_81 : Cond.instantiable RQ 8 ∈ tb := tb_of (List.mem_append_left _ (List.mem_of_getElem? (i := 81) rfl)) rfl
theorem m_82 : Cond.methodLink RX 32 yQ_init ∈ tb := tb_of (List.mem_append_left _ (List.mem_of_getElem? (i := 82) rfl)) rfl
theorem m_83 : Cond.instanceMethod yQ_init ∈ tb := tb_of (List.mem_append_left _ (List.mem_of_getElem? (i := 83) rfl)) rfl
theorem m_84 : Cond.code yQ_init cQ_init 4 none ∈ tb := tb_of (List.mem_append_left _ (List.mem_of_getElem? (i := 84) rfl)) rfl
theorem m_85 : Cond.methodLink RQ 5 objectInit ∈ tb := tb_of (List.mem_append_left _ (List.mem_of_getElem? (i := 85) rfl)) rfl
theorem m_86 : Cond.constantLong RQ 41 (4611686018427387904) ∈ tb := tb_of (List.mem_append_left _ (List.mem_of_getElem? (i := 86) rfl)) rfl
theorem m_87 : Cond.fieldLink RQ 11 "WordTokenPasser$Search" "tree" "LWordTokenPasser$Tree;" ∈ tb := tb_of (List.mem_append_left _ (List.mem_of_getElem? (i := 87) rfl)) rfl
theorem m_88 : Cond.fieldLink RQ 15 "WordTokenPasser$Search" "grams" "LWordTokenPasser$Grams;" ∈ tb := tb_of (List.mem_append_left _ (List.mem_of_getElem? (i := 88) rfl)) rfl
theorem m_89 : Cond.fieldLink RQ 19 "WordTokenPasser$Search" "sounds" "LWordTokenPasser$Sounds;" ∈ tb := tb_of (List.mem_append_left _ (List.mem_of_getElem? (i := 89) rfl)) rfl
theorem m_90 : Cond.fieldLink RQ 25 "WordTokenPasser$Search" "tokens" "[J" ∈ tb := tb_of (List.mem_append_left _ (List.mem_of_getElem? (i := 90) rfl)) rfl
theorem m_91 : Cond.fieldLink RQ 29 "WordTokenPasser$Search" "waiting" "[J" ∈ tb := tb_of (List.mem_append_left _ (List.mem_of_getElem? (i := 91) rfl)) rfl
theorem m_92 : Cond.fieldLink RQ 32 "WordTokenPasser$Search" "placeCounts" "[I" ∈ tb := tb_of (List.mem_append_left _ (List.mem_of_getElem? (i := 92) rfl)) rfl
theorem m_93 : Cond.fieldLink RQ 36 "WordTokenPasser$Search" "leastTokens" "[J" ∈ tb := tb_of (List.mem_append_left _ (List.mem_of_getElem? (i := 93) rfl)) rfl
theorem m_94 : Cond.fieldLink RQ 43 "WordTokenPasser$Search" "wholePath" "J" ∈ tb := tb_of (List.mem_append_left _ (List.mem_of_getElem? (i := 94) rfl)) rfl
theorem m_112 : Cond.arrayClass .long ∈ tb := tb_of (List.mem_append_left _ (List.mem_of_getElem? (i := 112) rfl)) rfl
theorem m_113 : Cond.fieldLink RX 12 "WordTokenPasser" "tree" "LWordTokenPasser$Tree;" ∈ tb := tb_of (List.mem_append_left _ (List.mem_of_getElem? (i := 113) rfl)) rfl
theorem m_114 : Cond.fieldLink RX 19 "WordTokenPasser" "grams" "LWordTokenPasser$Grams;" ∈ tb := tb_of (List.mem_append_left _ (List.mem_of_getElem? (i := 114) rfl)) rfl
theorem m_115 : Cond.fieldLink RX 26 "WordTokenPasser" "sounds" "LWordTokenPasser$Sounds;" ∈ tb := tb_of (List.mem_append_left _ (List.mem_of_getElem? (i := 115) rfl)) rfl
theorem m_116 : Cond.fieldLink RX 35 "WordTokenPasser" "search" "LWordTokenPasser$Search;" ∈ tb := tb_of (List.mem_append_left _ (List.mem_of_getElem? (i := 116) rfl)) rfl
theorem m_117 : Cond.fieldLink RX 39 "WordTokenPasser" "searched" "Z" ∈ tb := tb_of (List.mem_append_left _ (List.mem_of_getElem? (i := 117) rfl)) rfl
theorem m_129 : Cond.methodLink RL 13 yX_say ∈ tb := tb_of (List.mem_append_left _ (List.mem_of_getElem? (i := 129) rfl)) rfl
theorem m_130 : Cond.instanceMethod yX_say ∈ tb := tb_of (List.mem_append_left _ (List.mem_of_getElem? (i := 130) rfl)) rfl
theorem m_131 : Cond.selects RX yX_say yX_say ∈ tb := tb_of (List.mem_append_left _ (List.mem_of_getElem? (i := 131) rfl)) rfl
theorem m_132 : Cond.code yX_say cX_say 5 (some .int) ∈ tb := tb_of (List.mem_append_left _ (List.mem_of_getElem? (i := 132) rfl)) rfl
theorem m_133 : Cond.methodLink RX 43 yX_isWord ∈ tb := tb_of (List.mem_append_left _ (List.mem_of_getElem? (i := 133) rfl)) rfl
theorem m_134 : Cond.static yX_isWord ∈ tb := tb_of (List.mem_append_left _ (List.mem_of_getElem? (i := 134) rfl)) rfl
theorem m_135 : Cond.code yX_isWord cX_isWord 1 (some .boolean) ∈ tb := tb_of (List.mem_append_left _ (List.mem_of_getElem? (i := 135) rfl)) rfl
theorem m_136 : Cond.methodLink RX 47 yX_isPronunciation ∈ tb := tb_of (List.mem_append_left _ (List.mem_of_getElem? (i := 136) rfl)) rfl
theorem m_137 : Cond.static yX_isPronunciation ∈ tb := tb_of (List.mem_append_left _ (List.mem_of_getElem? (i := 137) rfl)) rfl
theorem m_138 : Cond.code yX_isPronunciation cX_isPronunciation 3 (some .boolean) ∈ tb := tb_of (List.mem_append_left _ (List.mem_of_getElem? (i := 138) rfl)) rfl
theorem m_139 : Cond.methodLink RX 105 yX_isPhone ∈ tb := tb_of (List.mem_append_left _ (List.mem_of_getElem? (i := 139) rfl)) rfl
theorem m_140 : Cond.static yX_isPhone ∈ tb := tb_of (List.mem_append_left _ (List.mem_of_getElem? (i := 140) rfl)) rfl
theorem m_141 : Cond.code yX_isPhone cX_isPhone 1 (some .boolean) ∈ tb := tb_of (List.mem_append_left _ (List.mem_of_getElem? (i := 141) rfl)) rfl
theorem m_142 : Cond.methodLink RX 51 yT_isFull ∈ tb := tb_of (List.mem_append_left _ (List.mem_of_getElem? (i := 142) rfl)) rfl
theorem m_143 : Cond.instanceMethod yT_isFull ∈ tb := tb_of (List.mem_append_left _ (List.mem_of_getElem? (i := 143) rfl)) rfl
theorem m_144 : Cond.selects RT yT_isFull yT_isFull ∈ tb := tb_of (List.mem_append_left _ (List.mem_of_getElem? (i := 144) rfl)) rfl
theorem m_145 : Cond.code yT_isFull cT_isFull 1 (some .boolean) ∈ tb := tb_of (List.mem_append_left _ (List.mem_of_getElem? (i := 145) rfl)) rfl
theorem m_146 : Cond.methodLink RX 55 yT_has ∈ tb := tb_of (List.mem_append_left _ (List.mem_of_getElem? (i := 146) rfl)) rfl
theorem m_147 : Cond.instanceMethod yT_has ∈ tb := tb_of (List.mem_append_left _ (List.mem_of_getElem? (i := 147) rfl)) rfl
theorem m_148 : Cond.selects RT yT_has yT_has ∈ tb := tb_of (List.mem_append_left _ (List.mem_of_getElem? (i := 148) rfl)) rfl
theorem m_149 : Cond.code yT_has cT_has 6 (some .boolean) ∈ tb := tb_of (List.mem_append_left _ (List.mem_of_getElem? (i := 149) rfl)) rfl
theorem m_150 : Cond.methodLink RT 32 yT_childOf ∈ tb := tb_of (List.mem_append_left _ (List.mem_of_getElem? (i := 150) rfl)) rfl
theorem m_152 : Cond.instanceMethod yT_childOf ∈ tb := tb_of (List.mem_append_left _ (List.mem_of_getElem? (i := 152) rfl)) rfl
theorem m_153 : Cond.code yT_childOf cT_childOf 4 (some .int) ∈ tb := tb_of (List.mem_append_left _ (List.mem_of_getElem? (i := 153) rfl)) rfl
theorem m_154 : Cond.methodLink RT 36 yT_endsWord ∈ tb := tb_of (List.mem_append_left _ (List.mem_of_getElem? (i := 154) rfl)) rfl
theorem m_155 : Cond.instanceMethod yT_endsWord ∈ tb := tb_of (List.mem_append_left _ (List.mem_of_getElem? (i := 155) rfl)) rfl
theorem m_156 : Cond.selects RT yT_endsWord yT_endsWord ∈ tb := tb_of (List.mem_append_left _ (List.mem_of_getElem? (i := 156) rfl)) rfl
theorem m_157 : Cond.code yT_endsWord cT_endsWord 3 (some .boolean) ∈ tb := tb_of (List.mem_append_left _ (List.mem_of_getElem? (i := 157) rfl)) rfl
theorem m_158 : Cond.methodLink RX 59 yT_add ∈ tb := tb_of (List.mem_append_left _ (List.mem_of_getElem? (i := 158) rfl)) rfl
theorem m_159 : Cond.instanceMethod yT_add ∈ tb := tb_of (List.mem_append_left _ (List.mem_of_getElem? (i := 159) rfl)) rfl
theorem m_160 : Cond.selects RT yT_add yT_add ∈ tb := tb_of (List.mem_append_left _ (List.mem_of_getElem? (i := 160) rfl)) rfl
theorem m_161 : Cond.code yT_add cT_add 6 none ∈ tb := tb_of (List.mem_append_left _ (List.mem_of_getElem? (i := 161) rfl)) rfl
theorem m_162 : Cond.methodLink RT 40 yT_grow ∈ tb := tb_of (List.mem_append_left _ (List.mem_of_getElem? (i := 162) rfl)) rfl
theorem m_164 : Cond.instanceMethod yT_grow ∈ tb := tb_of (List.mem_append_left _ (List.mem_of_getElem? (i := 164) rfl)) rfl
theorem m_165 : Cond.code yT_grow cT_grow 4 (some .int) ∈ tb := tb_of (List.mem_append_left _ (List.mem_of_getElem? (i := 165) rfl)) rfl
theorem m_166 : Cond.methodLink RX 63 yT_size ∈ tb := tb_of (List.mem_append_left _ (List.mem_of_getElem? (i := 166) rfl)) rfl
theorem m_167 : Cond.instanceMethod yT_size ∈ tb := tb_of (List.mem_append_left _ (List.mem_of_getElem? (i := 167) rfl)) rfl
theorem m_168 : Cond.selects RT yT_size yT_size ∈ tb := tb_of (List.mem_append_left _ (List.mem_of_getElem? (i := 168) rfl)) rfl
theorem m_169 : Cond.code yT_size cT_size 1 (some .int) ∈ tb := tb_of (List.mem_append_left _ (List.mem_of_getElem? (i := 169) rfl)) rfl
theorem m_170 : Cond.methodLink RL 18 yX_gram ∈ tb := tb_of (List.mem_append_left _ (List.mem_of_getElem? (i := 170) rfl)) rfl
theorem m_171 : Cond.instanceMethod yX_gram ∈ tb := tb_of (List.mem_append_left _ (List.mem_of_getElem? (i := 171) rfl)) rfl
theorem m_172 : Cond.selects RX yX_gram yX_gram ∈ tb := tb_of (List.mem_append_left _ (List.mem_of_getElem? (i := 172) rfl)) rfl
theorem m_173 : Cond.code yX_gram cX_gram 6 (some .boolean) ∈ tb := tb_of (List.mem_append_left _ (List.mem_of_getElem? (i := 173) rfl)) rfl
theorem m_174 : Cond.methodLink RX 67 yG_isGram ∈ tb := tb_of (List.mem_append_left _ (List.mem_of_getElem? (i := 174) rfl)) rfl
theorem m_175 : Cond.static yG_isGram ∈ tb := tb_of (List.mem_append_left _ (List.mem_of_getElem? (i := 175) rfl)) rfl
theorem m_176 : Cond.code yG_isGram cG_isGram 3 (some .boolean) ∈ tb := tb_of (List.mem_append_left _ (List.mem_of_getElem? (i := 176) rfl)) rfl
theorem mn_177 : Cond.methodLinkNest RG 24 yX_isWordOrEdge RX ∈ lw_tbl := List.mem_append_right _ (List.mem_append_left _ (List.mem_of_getElem? (i := 177) rfl))
theorem m_178 : Cond.static yX_isWordOrEdge ∈ tb := tb_of (List.mem_append_left _ (List.mem_of_getElem? (i := 178) rfl)) rfl
theorem m_179 : Cond.code yX_isWordOrEdge cX_isWordOrEdge 1 (some .boolean) ∈ tb := tb_of (List.mem_append_left _ (List.mem_of_getElem? (i := 179) rfl)) rfl
theorem mn_180 : Cond.methodLinkNest RG 28 yX_isWord RX ∈ lw_tbl := List.mem_append_right _ (List.mem_append_left _ (List.mem_of_getElem? (i := 180) rfl))
theorem m_181 : Cond.methodLink RX 70 yX_isCost ∈ tb := tb_of (List.mem_append_left _ (List.mem_of_getElem? (i := 181) rfl)) rfl
theorem m_182 : Cond.static yX_isCost ∈ tb := tb_of (List.mem_append_left _ (List.mem_of_getElem? (i := 182) rfl)) rfl
theorem m_183 : Cond.code yX_isCost cX_isCost 1 (some .boolean) ∈ tb := tb_of (List.mem_append_left _ (List.mem_of_getElem? (i := 183) rfl)) rfl
theorem m_184 : Cond.methodLink RX 73 yG_put ∈ tb := tb_of (List.mem_append_left _ (List.mem_of_getElem? (i := 184) rfl)) rfl
theorem m_185 : Cond.instanceMethod yG_put ∈ tb := tb_of (List.mem_append_left _ (List.mem_of_getElem? (i := 185) rfl)) rfl
theorem m_186 : Cond.selects RG yG_put yG_put ∈ tb := tb_of (List.mem_append_left _ (List.mem_of_getElem? (i := 186) rfl)) rfl
theorem m_187 : Cond.code yG_put cG_put 6 none ∈ tb := tb_of (List.mem_append_left _ (List.mem_of_getElem? (i := 187) rfl)) rfl
theorem m_188 : Cond.methodLink RG 31 yG_slot ∈ tb := tb_of (List.mem_append_left _ (List.mem_of_getElem? (i := 188) rfl)) rfl
theorem m_189 : Cond.static yG_slot ∈ tb := tb_of (List.mem_append_left _ (List.mem_of_getElem? (i := 189) rfl)) rfl
theorem m_190 : Cond.code yG_slot cG_slot 3 (some .int) ∈ tb := tb_of (List.mem_append_left _ (List.mem_of_getElem? (i := 190) rfl)) rfl
theorem m_191 : Cond.methodLink RL 23 yX_ungram ∈ tb := tb_of (List.mem_append_left _ (List.mem_of_getElem? (i := 191) rfl)) rfl
theorem m_192 : Cond.instanceMethod yX_ungram ∈ tb := tb_of (List.mem_append_left _ (List.mem_of_getElem? (i := 192) rfl)) rfl
theorem m_193 : Cond.selects RX yX_ungram yX_ungram ∈ tb := tb_of (List.mem_append_left _ (List.mem_of_getElem? (i := 193) rfl)) rfl
theorem m_194 : Cond.code yX_ungram cX_ungram 4 (some .boolean) ∈ tb := tb_of (List.mem_append_left _ (List.mem_of_getElem? (i := 194) rfl)) rfl
theorem m_195 : Cond.methodLink RX 77 yG_has ∈ tb := tb_of (List.mem_append_left _ (List.mem_of_getElem? (i := 195) rfl)) rfl
theorem m_196 : Cond.instanceMethod yG_has ∈ tb := tb_of (List.mem_append_left _ (List.mem_of_getElem? (i := 196) rfl)) rfl
theorem m_197 : Cond.selects RG yG_has yG_has ∈ tb := tb_of (List.mem_append_left _ (List.mem_of_getElem? (i := 197) rfl)) rfl
theorem m_198 : Cond.code yG_has cG_has 4 (some .boolean) ∈ tb := tb_of (List.mem_append_left _ (List.mem_of_getElem? (i := 198) rfl)) rfl
theorem m_199 : Cond.methodLink RX 79 yG_remove ∈ tb := tb_of (List.mem_append_left _ (List.mem_of_getElem? (i := 199) rfl)) rfl
theorem m_200 : Cond.instanceMethod yG_remove ∈ tb := tb_of (List.mem_append_left _ (List.mem_of_getElem? (i := 200) rfl)) rfl
theorem m_201 : Cond.selects RG yG_remove yG_remove ∈ tb := tb_of (List.mem_append_left _ (List.mem_of_getElem? (i := 201) rfl)) rfl
theorem m_202 : Cond.code yG_remove cG_remove 4 none ∈ tb := tb_of (List.mem_append_left _ (List.mem_of_getElem? (i := 202) rfl)) rfl
theorem m_203 : Cond.methodLink RL 28 yX_after ∈ tb := tb_of (List.mem_append_left _ (List.mem_of_getElem? (i := 203) rfl)) rfl
theorem m_204 : Cond.instanceMethod yX_after ∈ tb := tb_of (List.mem_append_left _ (List.mem_of_getElem? (i := 204) rfl)) rfl
theorem m_205 : Cond.selects RX yX_after yX_after ∈ tb := tb_of (List.mem_append_left _ (List.mem_of_getElem? (i := 205) rfl)) rfl
theorem m_206 : Cond.code yX_after cX_after 4 (some .int) ∈ tb := tb_of (List.mem_append_left _ (List.mem_of_getElem? (i := 206) rfl)) rfl
theorem m_207 : Cond.methodLink RX 83 yX_isWordOrEdge ∈ tb := tb_of (List.mem_append_left _ (List.mem_of_getElem? (i := 207) rfl)) rfl
theorem m_208 : Cond.methodLink RX 86 yG_costAfter ∈ tb := tb_of (List.mem_append_left _ (List.mem_of_getElem? (i := 208) rfl)) rfl
theorem m_209 : Cond.instanceMethod yG_costAfter ∈ tb := tb_of (List.mem_append_left _ (List.mem_of_getElem? (i := 209) rfl)) rfl
theorem m_210 : Cond.selects RG yG_costAfter yG_costAfter ∈ tb := tb_of (List.mem_append_left _ (List.mem_of_getElem? (i := 210) rfl)) rfl
theorem m_211 : Cond.code yG_costAfter cG_costAfter 6 (some .int) ∈ tb := tb_of (List.mem_append_left _ (List.mem_of_getElem? (i := 211) rfl)) rfl
theorem m_212 : Cond.methodLink RG 35 yG_costOfTwo ∈ tb := tb_of (List.mem_append_left _ (List.mem_of_getElem? (i := 212) rfl)) rfl
theorem m_214 : Cond.instanceMethod yG_costOfTwo ∈ tb := tb_of (List.mem_append_left _ (List.mem_of_getElem? (i := 214) rfl)) rfl
theorem m_215 : Cond.code yG_costOfTwo cG_costOfTwo 5 (some .int) ∈ tb := tb_of (List.mem_append_left _ (List.mem_of_getElem? (i := 215) rfl)) rfl
theorem m_216 : Cond.methodLink RL 33 yX_topology ∈ tb := tb_of (List.mem_append_left _ (List.mem_of_getElem? (i := 216) rfl)) rfl
theorem m_217 : Cond.instanceMethod yX_topology ∈ tb := tb_of (List.mem_append_left _ (List.mem_of_getElem? (i := 217) rfl)) rfl
theorem m_218 : Cond.selects RX yX_topology yX_topology ∈ tb := tb_of (List.mem_append_left _ (List.mem_of_getElem? (i := 218) rfl)) rfl
theorem m_219 : Cond.code yX_topology cX_topology 4 (some .boolean) ∈ tb := tb_of (List.mem_append_left _ (List.mem_of_getElem? (i := 219) rfl)) rfl
theorem m_220 : Cond.methodLink RX 90 yX_isState ∈ tb := tb_of (List.mem_append_left _ (List.mem_of_getElem? (i := 220) rfl)) rfl
theorem m_221 : Cond.static yX_isState ∈ tb := tb_of (List.mem_append_left _ (List.mem_of_getElem? (i := 221) rfl)) rfl
theorem m_222 : Cond.code yX_isState cX_isState 1 (some .boolean) ∈ tb := tb_of (List.mem_append_left _ (List.mem_of_getElem? (i := 222) rfl)) rfl
theorem m_223 : Cond.methodLink RX 93 yS_setTopology ∈ tb := tb_of (List.mem_append_left _ (List.mem_of_getElem? (i := 223) rfl)) rfl
theorem m_224 : Cond.instanceMethod yS_setTopology ∈ tb := tb_of (List.mem_append_left _ (List.mem_of_getElem? (i := 224) rfl)) rfl
theorem m_225 : Cond.selects RS yS_setTopology yS_setTopology ∈ tb := tb_of (List.mem_append_left _ (List.mem_of_getElem? (i := 225) rfl)) rfl
theorem m_226 : Cond.code yS_setTopology cS_setTopology 4 none ∈ tb := tb_of (List.mem_append_left _ (List.mem_of_getElem? (i := 226) rfl)) rfl
theorem m_227 : Cond.methodLink RL 37 yX_frame ∈ tb := tb_of (List.mem_append_left _ (List.mem_of_getElem? (i := 227) rfl)) rfl
theorem m_228 : Cond.instanceMethod yX_frame ∈ tb := tb_of (List.mem_append_left _ (List.mem_of_getElem? (i := 228) rfl)) rfl
theorem m_229 : Cond.selects RX yX_frame yX_frame ∈ tb := tb_of (List.mem_append_left _ (List.mem_of_getElem? (i := 229) rfl)) rfl
theorem m_230 : Cond.code yX_frame cX_frame 1 (some .int) ∈ tb := tb_of (List.mem_append_left _ (List.mem_of_getElem? (i := 230) rfl)) rfl
theorem m_231 : Cond.methodLink RX 96 yS_count ∈ tb := tb_of (List.mem_append_left _ (List.mem_of_getElem? (i := 231) rfl)) rfl
theorem m_232 : Cond.instanceMethod yS_count ∈ tb := tb_of (List.mem_append_left _ (List.mem_of_getElem? (i := 232) rfl)) rfl
theorem m_233 : Cond.selects RS yS_count yS_count ∈ tb := tb_of (List.mem_append_left _ (List.mem_of_getElem? (i := 233) rfl)) rfl
theorem m_234 : Cond.code yS_count cS_count 1 (some .int) ∈ tb := tb_of (List.mem_append_left _ (List.mem_of_getElem? (i := 234) rfl)) rfl
theorem m_235 : Cond.methodLink RX 99 yS_addFrame ∈ tb := tb_of (List.mem_append_left _ (List.mem_of_getElem? (i := 235) rfl)) rfl
theorem m_236 : Cond.instanceMethod yS_addFrame ∈ tb := tb_of (List.mem_append_left _ (List.mem_of_getElem? (i := 236) rfl)) rfl
theorem m_237 : Cond.selects RS yS_addFrame yS_addFrame ∈ tb := tb_of (List.mem_append_left _ (List.mem_of_getElem? (i := 237) rfl)) rfl
theorem m_238 : Cond.code yS_addFrame cS_addFrame 2 none ∈ tb := tb_of (List.mem_append_left _ (List.mem_of_getElem? (i := 238) rfl)) rfl
theorem m_239 : Cond.methodLink RL 42 yX_drop ∈ tb := tb_of (List.mem_append_left _ (List.mem_of_getElem? (i := 239) rfl)) rfl
theorem m_240 : Cond.instanceMethod yX_drop ∈ tb := tb_of (List.mem_append_right _ (List.mem_append_left _ (List.mem_of_getElem? (i := 0) rfl))) rfl
theorem m_241 : Cond.selects RX yX_drop yX_drop ∈ tb := tb_of (List.mem_append_right _ (List.mem_append_left _ (List.mem_of_getElem? (i := 1) rfl))) rfl
theorem m_242 : Cond.code yX_drop cX_drop 1 (some .boolean) ∈ tb := tb_of (List.mem_append_right _ (List.mem_append_left _ (List.mem_of_getElem? (i := 2) rfl))) rfl
theorem m_243 : Cond.methodLink RX 102 yS_removeFrame ∈ tb := tb_of (List.mem_append_right _ (List.mem_append_left _ (List.mem_of_getElem? (i := 3) rfl))) rfl
theorem m_244 : Cond.instanceMethod yS_removeFrame ∈ tb := tb_of (List.mem_append_right _ (List.mem_append_left _ (List.mem_of_getElem? (i := 4) rfl))) rfl
theorem m_245 : Cond.selects RS yS_removeFrame yS_removeFrame ∈ tb := tb_of (List.mem_append_right _ (List.mem_append_left _ (List.mem_of_getElem? (i := 5) rfl))) rfl
theorem m_246 : Cond.code yS_removeFrame cS_removeFrame 1 none ∈ tb := tb_of (List.mem_append_right _ (List.mem_append_left _ (List.mem_of_getElem? (i := 6) rfl))) rfl
theorem m_247 : Cond.methodLink RL 47 yX_sound ∈ tb := tb_of (List.mem_append_right _ (List.mem_append_left _ (List.mem_of_getElem? (i := 7) rfl))) rfl
theorem m_248 : Cond.instanceMethod yX_sound ∈ tb := tb_of (List.mem_append_right _ (List.mem_append_left _ (List.mem_of_getElem? (i := 8) rfl))) rfl
theorem m_249 : Cond.selects RX yX_sound yX_sound ∈ tb := tb_of (List.mem_append_right _ (List.mem_append_left _ (List.mem_of_getElem? (i := 9) rfl))) rfl
theorem m_250 : Cond.code yX_sound cX_sound 5 (some .boolean) ∈ tb := tb_of (List.mem_append_right _ (List.mem_append_left _ (List.mem_of_getElem? (i := 10) rfl))) rfl
theorem m_251 : Cond.methodLink RX 108 yS_setCost ∈ tb := tb_of (List.mem_append_right _ (List.mem_append_left _ (List.mem_of_getElem? (i := 11) rfl))) rfl
theorem m_252 : Cond.instanceMethod yS_setCost ∈ tb := tb_of (List.mem_append_right _ (List.mem_append_left _ (List.mem_of_getElem? (i := 12) rfl))) rfl
theorem m_253 : Cond.selects RS yS_setCost yS_setCost ∈ tb := tb_of (List.mem_append_right _ (List.mem_append_left _ (List.mem_of_getElem? (i := 13) rfl))) rfl
theorem m_254 : Cond.code yS_setCost cS_setCost 5 none ∈ tb := tb_of (List.mem_append_right _ (List.mem_append_left _ (List.mem_of_getElem? (i := 14) rfl))) rfl
theorem m_255 : Cond.methodLink RL 52 yX_frames ∈ tb := tb_of (List.mem_append_right _ (List.mem_append_left _ (List.mem_of_getElem? (i := 15) rfl))) rfl
theorem m_256 : Cond.instanceMethod yX_frames ∈ tb := tb_of (List.mem_append_right _ (List.mem_append_left _ (List.mem_of_getElem? (i := 16) rfl))) rfl
theorem m_257 : Cond.selects RX yX_frames yX_frames ∈ tb := tb_of (List.mem_append_right _ (List.mem_append_left _ (List.mem_of_getElem? (i := 17) rfl))) rfl
theorem m_258 : Cond.code yX_frames cX_frames 1 (some .int) ∈ tb := tb_of (List.mem_append_right _ (List.mem_append_left _ (List.mem_of_getElem? (i := 18) rfl))) rfl
theorem m_259 : Cond.methodLink RL 56 yX_nodes ∈ tb := tb_of (List.mem_append_right _ (List.mem_append_left _ (List.mem_of_getElem? (i := 19) rfl))) rfl
theorem m_260 : Cond.instanceMethod yX_nodes ∈ tb := tb_of (List.mem_append_right _ (List.mem_append_left _ (List.mem_of_getElem? (i := 20) rfl))) rfl
theorem m_261 : Cond.selects RX yX_nodes yX_nodes ∈ tb := tb_of (List.mem_append_right _ (List.mem_append_left _ (List.mem_of_getElem? (i := 21) rfl))) rfl
theorem m_262 : Cond.code yX_nodes cX_nodes 1 (some .int) ∈ tb := tb_of (List.mem_append_right _ (List.mem_append_left _ (List.mem_of_getElem? (i := 22) rfl))) rfl
theorem m_263 : Cond.methodLink RL 60 yX_total ∈ tb := tb_of (List.mem_append_right _ (List.mem_append_left _ (List.mem_of_getElem? (i := 23) rfl))) rfl
theorem m_264 : Cond.instanceMethod yX_total ∈ tb := tb_of (List.mem_append_right _ (List.mem_append_left _ (List.mem_of_getElem? (i := 24) rfl))) rfl
theorem m_265 : Cond.selects RX yX_total yX_total ∈ tb := tb_of (List.mem_append_right _ (List.mem_append_left _ (List.mem_of_getElem? (i := 25) rfl))) rfl
theorem m_266 : Cond.code yX_total cX_total 1 (some .int) ∈ tb := tb_of (List.mem_append_right _ (List.mem_append_left _ (List.mem_of_getElem? (i := 26) rfl))) rfl
theorem m_267 : Cond.methodLink RX 111 yX_searchOnce ∈ tb := tb_of (List.mem_append_right _ (List.mem_append_left _ (List.mem_of_getElem? (i := 27) rfl))) rfl
theorem m_269 : Cond.instanceMethod yX_searchOnce ∈ tb := tb_of (List.mem_append_right _ (List.mem_append_left _ (List.mem_of_getElem? (i := 29) rfl))) rfl
theorem m_270 : Cond.code yX_searchOnce cX_searchOnce 1 (some (.object "WordTokenPasser$Search")) ∈ tb := tb_of (List.mem_append_right _ (List.mem_append_left _ (List.mem_of_getElem? (i := 30) rfl))) rfl
theorem m_271 : Cond.methodLink RX 143 yQ_run ∈ tb := tb_of (List.mem_append_right _ (List.mem_append_left _ (List.mem_of_getElem? (i := 31) rfl))) rfl
theorem m_272 : Cond.instanceMethod yQ_run ∈ tb := tb_of (List.mem_append_right _ (List.mem_append_left _ (List.mem_of_getElem? (i := 32) rfl))) rfl
theorem m_273 : Cond.selects RQ yQ_run yQ_run ∈ tb := tb_of (List.mem_append_right _ (List.mem_append_left _ (List.mem_of_getElem? (i := 33) rfl))) rfl
theorem m_274 : Cond.code yQ_run cQ_run 3 none ∈ tb := tb_of (List.mem_append_right _ (List.mem_append_left _ (List.mem_of_getElem? (i := 34) rfl))) rfl
theorem m_275 : Cond.methodLink RQ 47 yJ_fillL ∈ tb := tb_of (List.mem_append_right _ (List.mem_append_left _ (List.mem_of_getElem? (i := 35) rfl))) rfl
theorem m_276 : Cond.static yJ_fillL ∈ tb := tb_of (List.mem_append_right _ (List.mem_append_left _ (List.mem_of_getElem? (i := 36) rfl))) rfl
theorem m_277 : Cond.code yJ_fillL cJ_fillL 5 none ∈ tb := tb_of (List.mem_append_right _ (List.mem_append_left _ (List.mem_of_getElem? (i := 37) rfl))) rfl
theorem m_278 : Cond.methodLink RQ 53 yQ_context ∈ tb := tb_of (List.mem_append_right _ (List.mem_append_left _ (List.mem_of_getElem? (i := 38) rfl))) rfl
theorem m_279 : Cond.static yQ_context ∈ tb := tb_of (List.mem_append_right _ (List.mem_append_left _ (List.mem_of_getElem? (i := 39) rfl))) rfl
theorem m_280 : Cond.code yQ_context cQ_context 2 (some .int) ∈ tb := tb_of (List.mem_append_right _ (List.mem_append_left _ (List.mem_of_getElem? (i := 40) rfl))) rfl
theorem m_281 : Cond.methodLink RQ 57 yS_count ∈ tb := tb_of (List.mem_append_right _ (List.mem_append_left _ (List.mem_of_getElem? (i := 41) rfl))) rfl
theorem m_282 : Cond.methodLink RQ 63 yQ_hear ∈ tb := tb_of (List.mem_append_right _ (List.mem_append_left _ (List.mem_of_getElem? (i := 42) rfl))) rfl
theorem m_284 : Cond.instanceMethod yQ_hear ∈ tb := tb_of (List.mem_append_right _ (List.mem_append_left _ (List.mem_of_getElem? (i := 44) rfl))) rfl
theorem m_285 : Cond.code yQ_hear cQ_hear 10 none ∈ tb := tb_of (List.mem_append_right _ (List.mem_append_left _ (List.mem_of_getElem? (i := 45) rfl))) rfl
theorem m_286 : Cond.methodLink RQ 77 yT_size ∈ tb := tb_of (List.mem_append_right _ (List.mem_append_left _ (List.mem_of_getElem? (i := 46) rfl))) rfl
theorem m_287 : Cond.methodLink RQ 80 yQ_place ∈ tb := tb_of (List.mem_append_right _ (List.mem_append_left _ (List.mem_of_getElem? (i := 47) rfl))) rfl
theorem m_288 : Cond.static yQ_place ∈ tb := tb_of (List.mem_append_right _ (List.mem_append_left _ (List.mem_of_getElem? (i := 48) rfl))) rfl
theorem m_289 : Cond.code yQ_place cQ_place 3 (some .int) ∈ tb := tb_of (List.mem_append_right _ (List.mem_append_left _ (List.mem_of_getElem? (i := 49) rfl))) rfl
theorem m_290 : Cond.methodLink RQ 84 yS_holdOf ∈ tb := tb_of (List.mem_append_right _ (List.mem_append_left _ (List.mem_of_getElem? (i := 50) rfl))) rfl
theorem m_291 : Cond.instanceMethod yS_holdOf ∈ tb := tb_of (List.mem_append_right _ (List.mem_append_left _ (List.mem_of_getElem? (i := 51) rfl))) rfl
theorem m_292 : Cond.selects RS yS_holdOf yS_holdOf ∈ tb := tb_of (List.mem_append_right _ (List.mem_append_left _ (List.mem_of_getElem? (i := 52) rfl))) rfl
theorem m_293 : Cond.code yS_holdOf cS_holdOf 2 (some .int) ∈ tb := tb_of (List.mem_append_right _ (List.mem_append_left _ (List.mem_of_getElem? (i := 53) rfl))) rfl
theorem m_294 : Cond.methodLink RQ 88 yK_plusCost ∈ tb := tb_of (List.mem_append_right _ (List.mem_append_left _ (List.mem_of_getElem? (i := 54) rfl))) rfl
theorem m_295 : Cond.static yK_plusCost ∈ tb := tb_of (List.mem_append_right _ (List.mem_append_left _ (List.mem_of_getElem? (i := 55) rfl))) rfl
theorem m_296 : Cond.code yK_plusCost cK_plusCost 3 (some .long) ∈ tb := tb_of (List.mem_append_right _ (List.mem_append_left _ (List.mem_of_getElem? (i := 56) rfl))) rfl
theorem m_297 : Cond.constantLong RK 11 (4611686018427387904) ∈ tb := tb_of (List.mem_append_right _ (List.mem_append_left _ (List.mem_of_getElem? (i := 57) rfl))) rfl
theorem m_298 : Cond.methodLink RQ 92 yQ_coming ∈ tb := tb_of (List.mem_append_right _ (List.mem_append_left _ (List.mem_of_getElem? (i := 58) rfl))) rfl
theorem m_300 : Cond.instanceMethod yQ_coming ∈ tb := tb_of (List.mem_append_right _ (List.mem_append_left _ (List.mem_of_getElem? (i := 60) rfl))) rfl
theorem m_301 : Cond.code yQ_coming cQ_coming 5 (some .long) ∈ tb := tb_of (List.mem_append_right _ (List.mem_append_left _ (List.mem_of_getElem? (i := 61) rfl))) rfl
theorem m_302 : Cond.methodLink RQ 108 yQ_leaving ∈ tb := tb_of (List.mem_append_right _ (List.mem_append_left _ (List.mem_of_getElem? (i := 62) rfl))) rfl
theorem m_304 : Cond.instanceMethod yQ_leaving ∈ tb := tb_of (List.mem_append_right _ (List.mem_append_left _ (List.mem_of_getElem? (i := 64) rfl))) rfl
theorem m_305 : Cond.code yQ_leaving cQ_leaving 4 (some .long) ∈ tb := tb_of (List.mem_append_right _ (List.mem_append_left _ (List.mem_of_getElem? (i := 65) rfl))) rfl
theorem m_306 : Cond.methodLink RQ 114 yS_leaveOf ∈ tb := tb_of (List.mem_append_right _ (List.mem_append_left _ (List.mem_of_getElem? (i := 66) rfl))) rfl
theorem m_307 : Cond.instanceMethod yS_leaveOf ∈ tb := tb_of (List.mem_append_right _ (List.mem_append_left _ (List.mem_of_getElem? (i := 67) rfl))) rfl
theorem m_308 : Cond.selects RS yS_leaveOf yS_leaveOf ∈ tb := tb_of (List.mem_append_right _ (List.mem_append_left _ (List.mem_of_getElem? (i := 68) rfl))) rfl
theorem m_309 : Cond.code yS_leaveOf cS_leaveOf 2 (some .int) ∈ tb := tb_of (List.mem_append_right _ (List.mem_append_left _ (List.mem_of_getElem? (i := 69) rfl))) rfl
theorem m_310 : Cond.methodLink RQ 111 yT_parentOf ∈ tb := tb_of (List.mem_append_right _ (List.mem_append_left _ (List.mem_of_getElem? (i := 70) rfl))) rfl
theorem m_311 : Cond.instanceMethod yT_parentOf ∈ tb := tb_of (List.mem_append_right _ (List.mem_append_left _ (List.mem_of_getElem? (i := 71) rfl))) rfl
theorem m_312 : Cond.selects RT yT_parentOf yT_parentOf ∈ tb := tb_of (List.mem_append_right _ (List.mem_append_left _ (List.mem_of_getElem? (i := 72) rfl))) rfl
theorem m_313 : Cond.code yT_parentOf cT_parentOf 2 (some .int) ∈ tb := tb_of (List.mem_append_right _ (List.mem_append_left _ (List.mem_of_getElem? (i := 73) rfl))) rfl
theorem m_314 : Cond.methodLink RQ 96 yA_min ∈ tb := tb_of (List.mem_append_right _ (List.mem_append_left _ (List.mem_of_getElem? (i := 74) rfl))) rfl
theorem m_315 : Cond.static yA_min ∈ tb := tb_of (List.mem_append_right _ (List.mem_append_left _ (List.mem_of_getElem? (i := 75) rfl))) rfl
theorem m_316 : Cond.code yA_min cA_min 4 (some .long) ∈ tb := tb_of (List.mem_append_right _ (List.mem_append_left _ (List.mem_of_getElem? (i := 76) rfl))) rfl
theorem m_317 : Cond.methodLink RQ 102 yT_phoneOf ∈ tb := tb_of (List.mem_append_right _ (List.mem_append_left _ (List.mem_of_getElem? (i := 77) rfl))) rfl
theorem m_318 : Cond.instanceMethod yT_phoneOf ∈ tb := tb_of (List.mem_append_right _ (List.mem_append_left _ (List.mem_of_getElem? (i := 78) rfl))) rfl
theorem m_319 : Cond.selects RT yT_phoneOf yT_phoneOf ∈ tb := tb_of (List.mem_append_right _ (List.mem_append_left _ (List.mem_of_getElem? (i := 79) rfl))) rfl
theorem m_320 : Cond.code yT_phoneOf cT_phoneOf 2 (some .int) ∈ tb := tb_of (List.mem_append_right _ (List.mem_append_left _ (List.mem_of_getElem? (i := 80) rfl))) rfl
theorem m_321 : Cond.methodLink RQ 105 yS_costOf ∈ tb := tb_of (List.mem_append_right _ (List.mem_append_left _ (List.mem_of_getElem? (i := 81) rfl))) rfl
theorem m_322 : Cond.instanceMethod yS_costOf ∈ tb := tb_of (List.mem_append_right _ (List.mem_append_left _ (List.mem_of_getElem? (i := 82) rfl))) rfl
theorem m_323 : Cond.selects RS yS_costOf yS_costOf ∈ tb := tb_of (List.mem_append_right _ (List.mem_append_left _ (List.mem_of_getElem? (i := 83) rfl))) rfl
theorem m_324 : Cond.code yS_costOf cS_costOf 4 (some .int) ∈ tb := tb_of (List.mem_append_right _ (List.mem_append_left _ (List.mem_of_getElem? (i := 84) rfl))) rfl
theorem m_325 : Cond.methodLink RQ 67 yQ_endWords ∈ tb := tb_of (List.mem_append_right _ (List.mem_append_left _ (List.mem_of_getElem? (i := 85) rfl))) rfl
theorem m_327 : Cond.instanceMethod yQ_endWords ∈ tb := tb_of (List.mem_append_right _ (List.mem_append_left _ (List.mem_of_getElem? (i := 87) rfl))) rfl
theorem m_328 : Cond.code yQ_endWords cQ_endWords 11 none ∈ tb := tb_of (List.mem_append_right _ (List.mem_append_left _ (List.mem_of_getElem? (i := 88) rfl))) rfl
theorem m_329 : Cond.methodLink RQ 117 yT_endsWord ∈ tb := tb_of (List.mem_append_right _ (List.mem_append_left _ (List.mem_of_getElem? (i := 89) rfl))) rfl
theorem m_330 : Cond.methodLink RQ 121 yG_costAfter ∈ tb := tb_of (List.mem_append_right _ (List.mem_append_left _ (List.mem_of_getElem? (i := 90) rfl))) rfl
theorem m_331 : Cond.methodLink RQ 126 yK_plusWord ∈ tb := tb_of (List.mem_append_right _ (List.mem_append_left _ (List.mem_of_getElem? (i := 91) rfl))) rfl
theorem m_332 : Cond.static yK_plusWord ∈ tb := tb_of (List.mem_append_right _ (List.mem_append_left _ (List.mem_of_getElem? (i := 92) rfl))) rfl
theorem m_333 : Cond.code yK_plusWord cK_plusWord 5 (some .long) ∈ tb := tb_of (List.mem_append_right _ (List.mem_append_left _ (List.mem_of_getElem? (i := 93) rfl))) rfl
theorem m_334 : Cond.constantLong RK 13 (1023) ∈ tb := tb_of (List.mem_append_right _ (List.mem_append_left _ (List.mem_of_getElem? (i := 94) rfl))) rfl
theorem m_335 : Cond.constantLong RK 15 (-1024) ∈ tb := tb_of (List.mem_append_right _ (List.mem_append_left _ (List.mem_of_getElem? (i := 95) rfl))) rfl
theorem m_336 : Cond.constantLong RK 17 (1024) ∈ tb := tb_of (List.mem_append_right _ (List.mem_append_left _ (List.mem_of_getElem? (i := 96) rfl))) rfl
theorem m_337 : Cond.methodLink RQ 71 yQ_measure ∈ tb := tb_of (List.mem_append_right _ (List.mem_append_left _ (List.mem_of_getElem? (i := 97) rfl))) rfl
theorem m_339 : Cond.instanceMethod yQ_measure ∈ tb := tb_of (List.mem_append_right _ (List.mem_append_left _ (List.mem_of_getElem? (i := 99) rfl))) rfl
theorem m_340 : Cond.code yQ_measure cQ_measure 6 none ∈ tb := tb_of (List.mem_append_right _ (List.mem_append_left _ (List.mem_of_getElem? (i := 100) rfl))) rfl
theorem m_341 : Cond.methodLink RQ 74 yQ_endPath ∈ tb := tb_of (List.mem_append_right _ (List.mem_append_left _ (List.mem_of_getElem? (i := 101) rfl))) rfl
theorem m_343 : Cond.instanceMethod yQ_endPath ∈ tb := tb_of (List.mem_append_right _ (List.mem_append_left _ (List.mem_of_getElem? (i := 103) rfl))) rfl
theorem m_344 : Cond.code yQ_endPath cQ_endPath 5 none ∈ tb := tb_of (List.mem_append_right _ (List.mem_append_left _ (List.mem_of_getElem? (i := 104) rfl))) rfl
theorem m_345 : Cond.methodLink RX 115 yQ_wholePath ∈ tb := tb_of (List.mem_append_right _ (List.mem_append_left _ (List.mem_of_getElem? (i := 105) rfl))) rfl
theorem m_346 : Cond.instanceMethod yQ_wholePath ∈ tb := tb_of (List.mem_append_right _ (List.mem_append_left _ (List.mem_of_getElem? (i := 106) rfl))) rfl
theorem m_347 : Cond.selects RQ yQ_wholePath yQ_wholePath ∈ tb := tb_of (List.mem_append_right _ (List.mem_append_left _ (List.mem_of_getElem? (i := 107) rfl))) rfl
theorem m_348 : Cond.code yQ_wholePath cQ_wholePath 1 (some .long) ∈ tb := tb_of (List.mem_append_right _ (List.mem_append_left _ (List.mem_of_getElem? (i := 108) rfl))) rfl
theorem m_349 : Cond.methodLink RX 119 yK_costOf ∈ tb := tb_of (List.mem_append_right _ (List.mem_append_left _ (List.mem_of_getElem? (i := 109) rfl))) rfl
theorem m_350 : Cond.static yK_costOf ∈ tb := tb_of (List.mem_append_right _ (List.mem_append_left _ (List.mem_of_getElem? (i := 110) rfl))) rfl
theorem m_351 : Cond.code yK_costOf cK_costOf 2 (some .int) ∈ tb := tb_of (List.mem_append_right _ (List.mem_append_left _ (List.mem_of_getElem? (i := 111) rfl))) rfl
theorem m_352 : Cond.methodLink RL 64 yX_length ∈ tb := tb_of (List.mem_append_right _ (List.mem_append_left _ (List.mem_of_getElem? (i := 112) rfl))) rfl
theorem m_353 : Cond.instanceMethod yX_length ∈ tb := tb_of (List.mem_append_right _ (List.mem_append_left _ (List.mem_of_getElem? (i := 113) rfl))) rfl
theorem m_354 : Cond.selects RX yX_length yX_length ∈ tb := tb_of (List.mem_append_right _ (List.mem_append_left _ (List.mem_of_getElem? (i := 114) rfl))) rfl
theorem m_355 : Cond.code yX_length cX_length 1 (some .int) ∈ tb := tb_of (List.mem_append_right _ (List.mem_append_left _ (List.mem_of_getElem? (i := 115) rfl))) rfl
theorem m_356 : Cond.methodLink RX 125 yK_countOf ∈ tb := tb_of (List.mem_append_right _ (List.mem_append_left _ (List.mem_of_getElem? (i := 116) rfl))) rfl
theorem m_357 : Cond.static yK_countOf ∈ tb := tb_of (List.mem_append_right _ (List.mem_append_left _ (List.mem_of_getElem? (i := 117) rfl))) rfl
theorem m_358 : Cond.code yK_countOf cK_countOf 2 (some .int) ∈ tb := tb_of (List.mem_append_right _ (List.mem_append_left _ (List.mem_of_getElem? (i := 118) rfl))) rfl
theorem m_359 : Cond.constantLong RK 19 (63) ∈ tb := tb_of (List.mem_append_right _ (List.mem_append_left _ (List.mem_of_getElem? (i := 119) rfl))) rfl
theorem m_360 : Cond.methodLink RL 68 yX_wordAt ∈ tb := tb_of (List.mem_append_right _ (List.mem_append_left _ (List.mem_of_getElem? (i := 120) rfl))) rfl
theorem m_361 : Cond.instanceMethod yX_wordAt ∈ tb := tb_of (List.mem_append_right _ (List.mem_append_left _ (List.mem_of_getElem? (i := 121) rfl))) rfl
theorem m_362 : Cond.selects RX yX_wordAt yX_wordAt ∈ tb := tb_of (List.mem_append_right _ (List.mem_append_left _ (List.mem_of_getElem? (i := 122) rfl))) rfl
theorem m_363 : Cond.code yX_wordAt cX_wordAt 2 (some .int) ∈ tb := tb_of (List.mem_append_right _ (List.mem_append_left _ (List.mem_of_getElem? (i := 123) rfl))) rfl
theorem m_364 : Cond.methodLink RX 128 yK_wordOf ∈ tb := tb_of (List.mem_append_right _ (List.mem_append_left _ (List.mem_of_getElem? (i := 124) rfl))) rfl
theorem m_365 : Cond.static yK_wordOf ∈ tb := tb_of (List.mem_append_right _ (List.mem_append_left _ (List.mem_of_getElem? (i := 125) rfl))) rfl
theorem m_366 : Cond.code yK_wordOf cK_wordOf 4 (some .int) ∈ tb := tb_of (List.mem_append_right _ (List.mem_append_left _ (List.mem_of_getElem? (i := 126) rfl))) rfl
theorem m_367 : Cond.methodLink RK 21 yK_countOf ∈ tb := tb_of (List.mem_append_right _ (List.mem_append_left _ (List.mem_of_getElem? (i := 127) rfl))) rfl
theorem m_368 : Cond.methodLink RL 73 yX_live ∈ tb := tb_of (List.mem_append_right _ (List.mem_append_left _ (List.mem_of_getElem? (i := 128) rfl))) rfl
theorem m_369 : Cond.instanceMethod yX_live ∈ tb := tb_of (List.mem_append_right _ (List.mem_append_left _ (List.mem_of_getElem? (i := 129) rfl))) rfl
theorem m_370 : Cond.selects RX yX_live yX_live ∈ tb := tb_of (List.mem_append_right _ (List.mem_append_left _ (List.mem_of_getElem? (i := 130) rfl))) rfl
theorem m_371 : Cond.code yX_live cX_live 2 (some .int) ∈ tb := tb_of (List.mem_append_right _ (List.mem_append_left _ (List.mem_of_getElem? (i := 131) rfl))) rfl
theorem m_372 : Cond.methodLink RX 132 yX_isFrameCount ∈ tb := tb_of (List.mem_append_right _ (List.mem_append_left _ (List.mem_of_getElem? (i := 132) rfl))) rfl
theorem m_374 : Cond.instanceMethod yX_isFrameCount ∈ tb := tb_of (List.mem_append_right _ (List.mem_append_left _ (List.mem_of_getElem? (i := 134) rfl))) rfl
theorem m_375 : Cond.code yX_isFrameCount cX_isFrameCount 2 (some .boolean) ∈ tb := tb_of (List.mem_append_right _ (List.mem_append_left _ (List.mem_of_getElem? (i := 135) rfl))) rfl
theorem m_376 : Cond.methodLink RX 135 yQ_placesAfter ∈ tb := tb_of (List.mem_append_right _ (List.mem_append_left _ (List.mem_of_getElem? (i := 136) rfl))) rfl
theorem m_377 : Cond.instanceMethod yQ_placesAfter ∈ tb := tb_of (List.mem_append_right _ (List.mem_append_left _ (List.mem_of_getElem? (i := 137) rfl))) rfl
theorem m_378 : Cond.selects RQ yQ_placesAfter yQ_placesAfter ∈ tb := tb_of (List.mem_append_right _ (List.mem_append_left _ (List.mem_of_getElem? (i := 138) rfl))) rfl
theorem m_379 : Cond.code yQ_placesAfter cQ_placesAfter 2 (some .int) ∈ tb := tb_of (List.mem_append_right _ (List.mem_append_left _ (List.mem_of_getElem? (i := 139) rfl))) rfl
theorem m_380 : Cond.methodLink RL 77 yX_best ∈ tb := tb_of (List.mem_append_right _ (List.mem_append_left _ (List.mem_of_getElem? (i := 140) rfl))) rfl
theorem m_381 : Cond.instanceMethod yX_best ∈ tb := tb_of (List.mem_append_right _ (List.mem_append_left _ (List.mem_of_getElem? (i := 141) rfl))) rfl
theorem m_382 : Cond.selects RX yX_best yX_best ∈ tb := tb_of (List.mem_append_right _ (List.mem_append_left _ (List.mem_of_getElem? (i := 142) rfl))) rfl
theorem m_383 : Cond.code yX_best cX_best 2 (some .int) ∈ tb := tb_of (List.mem_append_right _ (List.mem_append_left _ (List.mem_of_getElem? (i := 143) rfl))) rfl
theorem m_384 : Cond.methodLink RX 139 yQ_leastAfter ∈ tb := tb_of (List.mem_append_right _ (List.mem_append_left _ (List.mem_of_getElem? (i := 144) rfl))) rfl
theorem m_385 : Cond.instanceMethod yQ_leastAfter ∈ tb := tb_of (List.mem_append_right _ (List.mem_append_left _ (List.mem_of_getElem? (i := 145) rfl))) rfl
theorem m_386 : Cond.selects RQ yQ_leastAfter yQ_leastAfter ∈ tb := tb_of (List.mem_append_right _ (List.mem_append_left _ (List.mem_of_getElem? (i := 146) rfl))) rfl
theorem m_387 : Cond.code yQ_leastAfter cQ_leastAfter 2 (some .long) ∈ tb := tb_of (List.mem_append_right _ (List.mem_append_left _ (List.mem_of_getElem? (i := 147) rfl))) rfl
theorem m_388 : Cond.classLink RL 10 RM ∈ tb := tb_of (List.mem_append_right _ (List.mem_append_left _ (List.mem_of_getElem? (i := 148) rfl))) rfl
theorem m_389 : Cond.instantiable RM 20 ∈ tb := tb_of (List.mem_append_right _ (List.mem_append_left _ (List.mem_of_getElem? (i := 149) rfl))) rfl
theorem m_390 : Cond.methodLink RL 12 yM_init ∈ tb := tb_of (List.mem_append_right _ (List.mem_append_left _ (List.mem_of_getElem? (i := 150) rfl))) rfl
theorem m_391 : Cond.instanceMethod yM_init ∈ tb := tb_of (List.mem_append_right _ (List.mem_append_left _ (List.mem_of_getElem? (i := 151) rfl))) rfl
theorem m_392 : Cond.code yM_init cM_init 1 none ∈ tb := tb_of (List.mem_append_right _ (List.mem_append_left _ (List.mem_of_getElem? (i := 152) rfl))) rfl
theorem m_393 : Cond.methodLink RM 1 objectInit ∈ tb := tb_of (List.mem_append_right _ (List.mem_append_left _ (List.mem_of_getElem? (i := 153) rfl))) rfl
theorem m_394 : Cond.fieldLink RM 7 "WordTokenPasserModel" "known" "[Z" ∈ tb := tb_of (List.mem_append_right _ (List.mem_append_left _ (List.mem_of_getElem? (i := 154) rfl))) rfl
theorem m_395 : Cond.fieldLink RM 13 "WordTokenPasserModel" "cost" "[I" ∈ tb := tb_of (List.mem_append_right _ (List.mem_append_left _ (List.mem_of_getElem? (i := 155) rfl))) rfl
theorem m_396 : Cond.fieldLink RM 17 "WordTokenPasserModel" "backoff" "[I" ∈ tb := tb_of (List.mem_append_right _ (List.mem_append_left _ (List.mem_of_getElem? (i := 156) rfl))) rfl
theorem m_397 : Cond.fieldLink RM 60 "WordTokenPasserModel" "many" "I" ∈ tb := tb_of (List.mem_append_right _ (List.mem_append_left _ (List.mem_of_getElem? (i := 157) rfl))) rfl
theorem m_398 : Cond.fieldLink RM 20 "WordTokenPasserModel" "word" "[I" ∈ tb := tb_of (List.mem_append_right _ (List.mem_append_left _ (List.mem_of_getElem? (i := 158) rfl))) rfl
theorem m_399 : Cond.fieldLink RM 23 "WordTokenPasserModel" "size" "[I" ∈ tb := tb_of (List.mem_append_right _ (List.mem_append_left _ (List.mem_of_getElem? (i := 159) rfl))) rfl
theorem m_400 : Cond.fieldLink RM 26 "WordTokenPasserModel" "phone" "[I" ∈ tb := tb_of (List.mem_append_right _ (List.mem_append_left _ (List.mem_of_getElem? (i := 160) rfl))) rfl
theorem m_401 : Cond.fieldLink RM 29 "WordTokenPasserModel" "hold" "[I" ∈ tb := tb_of (List.mem_append_right _ (List.mem_append_left _ (List.mem_of_getElem? (i := 161) rfl))) rfl
theorem m_402 : Cond.fieldLink RM 32 "WordTokenPasserModel" "leave" "[I" ∈ tb := tb_of (List.mem_append_right _ (List.mem_append_left _ (List.mem_of_getElem? (i := 162) rfl))) rfl
theorem m_403 : Cond.fieldLink RM 87 "WordTokenPasserModel" "frames" "I" ∈ tb := tb_of (List.mem_append_right _ (List.mem_append_left _ (List.mem_of_getElem? (i := 163) rfl))) rfl
theorem m_404 : Cond.fieldLink RM 35 "WordTokenPasserModel" "sound" "[I" ∈ tb := tb_of (List.mem_append_right _ (List.mem_append_left _ (List.mem_of_getElem? (i := 164) rfl))) rfl
theorem m_405 : Cond.fieldLink RM 38 "WordTokenPasserModel" "least" "[I" ∈ tb := tb_of (List.mem_append_right _ (List.mem_append_left _ (List.mem_of_getElem? (i := 165) rfl))) rfl
theorem m_406 : Cond.fieldLink RM 41 "WordTokenPasserModel" "done" "[I" ∈ tb := tb_of (List.mem_append_right _ (List.mem_append_left _ (List.mem_of_getElem? (i := 166) rfl))) rfl
theorem m_407 : Cond.fieldLink RM 44 "WordTokenPasserModel" "code" "[I" ∈ tb := tb_of (List.mem_append_right _ (List.mem_append_left _ (List.mem_of_getElem? (i := 167) rfl))) rfl
theorem m_408 : Cond.fieldLink RM 47 "WordTokenPasserModel" "next" "[I" ∈ tb := tb_of (List.mem_append_right _ (List.mem_append_left _ (List.mem_of_getElem? (i := 168) rfl))) rfl
theorem m_409 : Cond.fieldLink RM 50 "WordTokenPasserModel" "nextDone" "[I" ∈ tb := tb_of (List.mem_append_right _ (List.mem_append_left _ (List.mem_of_getElem? (i := 169) rfl))) rfl
theorem m_410 : Cond.fieldLink RM 53 "WordTokenPasserModel" "nextCode" "[I" ∈ tb := tb_of (List.mem_append_right _ (List.mem_append_left _ (List.mem_of_getElem? (i := 170) rfl))) rfl
theorem m_411 : Cond.fieldLink RM 111 "WordTokenPasserModel" "all" "I" ∈ tb := tb_of (List.mem_append_right _ (List.mem_append_left _ (List.mem_of_getElem? (i := 171) rfl))) rfl
theorem m_412 : Cond.fieldLink RM 114 "WordTokenPasserModel" "words" "I" ∈ tb := tb_of (List.mem_append_right _ (List.mem_append_left _ (List.mem_of_getElem? (i := 172) rfl))) rfl
theorem m_413 : Cond.fieldLink RM 117 "WordTokenPasserModel" "which" "I" ∈ tb := tb_of (List.mem_append_right _ (List.mem_append_left _ (List.mem_of_getElem? (i := 173) rfl))) rfl
theorem m_455 : Cond.methodLink RL 59 yM_nodes ∈ tb := tb_of (List.mem_append_right _ (List.mem_append_left _ (List.mem_of_getElem? (i := 215) rfl))) rfl
theorem m_456 : Cond.instanceMethod yM_nodes ∈ tb := tb_of (List.mem_append_right _ (List.mem_append_left _ (List.mem_of_getElem? (i := 216) rfl))) rfl
theorem m_457 : Cond.selects RM yM_nodes yM_nodes ∈ tb := tb_of (List.mem_append_right _ (List.mem_append_left _ (List.mem_of_getElem? (i := 217) rfl))) rfl
theorem m_458 : Cond.code yM_nodes cM_nodes 4 (some .int) ∈ tb := tb_of (List.mem_append_right _ (List.mem_append_left _ (List.mem_of_getElem? (i := 218) rfl))) rfl
theorem m_459 : Cond.methodLink RM 64 yM_fresh ∈ tb := tb_of (List.mem_append_right _ (List.mem_append_left _ (List.mem_of_getElem? (i := 219) rfl))) rfl
theorem m_461 : Cond.instanceMethod yM_fresh ∈ tb := tb_of (List.mem_append_right _ (List.mem_append_left _ (List.mem_of_getElem? (i := 221) rfl))) rfl
theorem m_462 : Cond.code yM_fresh cM_fresh 5 (some .boolean) ∈ tb := tb_of (List.mem_append_right _ (List.mem_append_left _ (List.mem_of_getElem? (i := 222) rfl))) rfl
theorem m_463 : Cond.methodLink RM 56 yM_begins ∈ tb := tb_of (List.mem_append_right _ (List.mem_append_left _ (List.mem_of_getElem? (i := 223) rfl))) rfl
theorem m_465 : Cond.instanceMethod yM_begins ∈ tb := tb_of (List.mem_append_right _ (List.mem_append_left _ (List.mem_of_getElem? (i := 225) rfl))) rfl
theorem m_466 : Cond.code yM_begins cM_begins 6 (some .boolean) ∈ tb := tb_of (List.mem_append_right _ (List.mem_append_left _ (List.mem_of_getElem? (i := 226) rfl))) rfl
theorem m_467 : Cond.methodLink RL 17 yM_say ∈ tb := tb_of (List.mem_append_right _ (List.mem_append_left _ (List.mem_of_getElem? (i := 227) rfl))) rfl
theorem m_468 : Cond.instanceMethod yM_say ∈ tb := tb_of (List.mem_append_right _ (List.mem_append_left _ (List.mem_of_getElem? (i := 228) rfl))) rfl
theorem m_469 : Cond.selects RM yM_say yM_say ∈ tb := tb_of (List.mem_append_right _ (List.mem_append_left _ (List.mem_of_getElem? (i := 229) rfl))) rfl
theorem m_470 : Cond.code yM_say cM_say 7 (some .int) ∈ tb := tb_of (List.mem_append_right _ (List.mem_append_left _ (List.mem_of_getElem? (i := 230) rfl))) rfl
theorem m_471 : Cond.methodLink RM 68 yM_up ∈ tb := tb_of (List.mem_append_right _ (List.mem_append_left _ (List.mem_of_getElem? (i := 231) rfl))) rfl
theorem m_472 : Cond.static yM_up ∈ tb := tb_of (List.mem_append_right _ (List.mem_append_left _ (List.mem_of_getElem? (i := 232) rfl))) rfl
theorem m_473 : Cond.code yM_up cM_up 2 (some .boolean) ∈ tb := tb_of (List.mem_append_right _ (List.mem_append_left _ (List.mem_of_getElem? (i := 233) rfl))) rfl
theorem m_474 : Cond.methodLink RM 71 yM_nodes ∈ tb := tb_of (List.mem_append_right _ (List.mem_append_left _ (List.mem_of_getElem? (i := 234) rfl))) rfl
theorem m_475 : Cond.methodLink RL 22 yM_gram ∈ tb := tb_of (List.mem_append_right _ (List.mem_append_left _ (List.mem_of_getElem? (i := 235) rfl))) rfl
theorem m_476 : Cond.instanceMethod yM_gram ∈ tb := tb_of (List.mem_append_right _ (List.mem_append_left _ (List.mem_of_getElem? (i := 236) rfl))) rfl
theorem m_477 : Cond.selects RM yM_gram yM_gram ∈ tb := tb_of (List.mem_append_right _ (List.mem_append_left _ (List.mem_of_getElem? (i := 237) rfl))) rfl
theorem m_478 : Cond.code yM_gram cM_gram 7 (some .boolean) ∈ tb := tb_of (List.mem_append_right _ (List.mem_append_left _ (List.mem_of_getElem? (i := 238) rfl))) rfl
theorem m_479 : Cond.methodLink RM 75 yM_slot ∈ tb := tb_of (List.mem_append_right _ (List.mem_append_left _ (List.mem_of_getElem? (i := 239) rfl))) rfl
theorem m_480 : Cond.static yM_slot ∈ tb := tb_of (List.mem_append_right _ (List.mem_append_right _ (List.mem_of_getElem? (i := 0) rfl))) rfl
theorem m_481 : Cond.code yM_slot cM_slot 3 (some .int) ∈ tb := tb_of (List.mem_append_right _ (List.mem_append_right _ (List.mem_of_getElem? (i := 1) rfl))) rfl
theorem m_482 : Cond.methodLink RL 27 yM_ungram ∈ tb := tb_of (List.mem_append_right _ (List.mem_append_right _ (List.mem_of_getElem? (i := 2) rfl))) rfl
theorem m_483 : Cond.instanceMethod yM_ungram ∈ tb := tb_of (List.mem_append_right _ (List.mem_append_right _ (List.mem_of_getElem? (i := 3) rfl))) rfl
theorem m_484 : Cond.selects RM yM_ungram yM_ungram ∈ tb := tb_of (List.mem_append_right _ (List.mem_append_right _ (List.mem_of_getElem? (i := 4) rfl))) rfl
theorem m_485 : Cond.code yM_ungram cM_ungram 5 (some .boolean) ∈ tb := tb_of (List.mem_append_right _ (List.mem_append_right _ (List.mem_of_getElem? (i := 5) rfl))) rfl
theorem m_486 : Cond.methodLink RL 32 yM_after ∈ tb := tb_of (List.mem_append_right _ (List.mem_append_right _ (List.mem_of_getElem? (i := 6) rfl))) rfl
theorem m_487 : Cond.instanceMethod yM_after ∈ tb := tb_of (List.mem_append_right _ (List.mem_append_right _ (List.mem_of_getElem? (i := 7) rfl))) rfl
theorem m_488 : Cond.selects RM yM_after yM_after ∈ tb := tb_of (List.mem_append_right _ (List.mem_append_right _ (List.mem_of_getElem? (i := 8) rfl))) rfl
theorem m_489 : Cond.code yM_after cM_after 6 (some .int) ∈ tb := tb_of (List.mem_append_right _ (List.mem_append_right _ (List.mem_of_getElem? (i := 9) rfl))) rfl
theorem m_490 : Cond.methodLink RM 83 yM_afterOne ∈ tb := tb_of (List.mem_append_right _ (List.mem_append_right _ (List.mem_of_getElem? (i := 10) rfl))) rfl
theorem m_492 : Cond.instanceMethod yM_afterOne ∈ tb := tb_of (List.mem_append_right _ (List.mem_append_right _ (List.mem_of_getElem? (i := 12) rfl))) rfl
theorem m_493 : Cond.code yM_afterOne cM_afterOne 4 (some .int) ∈ tb := tb_of (List.mem_append_right _ (List.mem_append_right _ (List.mem_of_getElem? (i := 13) rfl))) rfl
theorem m_494 : Cond.methodLink RM 79 yM_back ∈ tb := tb_of (List.mem_append_right _ (List.mem_append_right _ (List.mem_of_getElem? (i := 14) rfl))) rfl
theorem m_496 : Cond.instanceMethod yM_back ∈ tb := tb_of (List.mem_append_right _ (List.mem_append_right _ (List.mem_of_getElem? (i := 16) rfl))) rfl
theorem m_497 : Cond.code yM_back cM_back 2 (some .int) ∈ tb := tb_of (List.mem_append_right _ (List.mem_append_right _ (List.mem_of_getElem? (i := 17) rfl))) rfl
theorem m_498 : Cond.methodLink RL 36 yM_topology ∈ tb := tb_of (List.mem_append_right _ (List.mem_append_right _ (List.mem_of_getElem? (i := 18) rfl))) rfl
theorem m_499 : Cond.instanceMethod yM_topology ∈ tb := tb_of (List.mem_append_right _ (List.mem_append_right _ (List.mem_of_getElem? (i := 19) rfl))) rfl
theorem m_500 : Cond.selects RM yM_topology yM_topology ∈ tb := tb_of (List.mem_append_right _ (List.mem_append_right _ (List.mem_of_getElem? (i := 20) rfl))) rfl
theorem m_501 : Cond.code yM_topology cM_topology 4 (some .boolean) ∈ tb := tb_of (List.mem_append_right _ (List.mem_append_right _ (List.mem_of_getElem? (i := 21) rfl))) rfl
theorem m_502 : Cond.methodLink RL 41 yM_frame ∈ tb := tb_of (List.mem_append_right _ (List.mem_append_right _ (List.mem_of_getElem? (i := 22) rfl))) rfl
theorem m_503 : Cond.instanceMethod yM_frame ∈ tb := tb_of (List.mem_append_right _ (List.mem_append_right _ (List.mem_of_getElem? (i := 23) rfl))) rfl
theorem m_504 : Cond.selects RM yM_frame yM_frame ∈ tb := tb_of (List.mem_append_right _ (List.mem_append_right _ (List.mem_of_getElem? (i := 24) rfl))) rfl
theorem m_505 : Cond.code yM_frame cM_frame 2 (some .int) ∈ tb := tb_of (List.mem_append_right _ (List.mem_append_right _ (List.mem_of_getElem? (i := 25) rfl))) rfl
theorem m_506 : Cond.methodLink RL 46 yM_drop ∈ tb := tb_of (List.mem_append_right _ (List.mem_append_right _ (List.mem_of_getElem? (i := 26) rfl))) rfl
theorem m_507 : Cond.instanceMethod yM_drop ∈ tb := tb_of (List.mem_append_right _ (List.mem_append_right _ (List.mem_of_getElem? (i := 27) rfl))) rfl
theorem m_508 : Cond.selects RM yM_drop yM_drop ∈ tb := tb_of (List.mem_append_right _ (List.mem_append_right _ (List.mem_of_getElem? (i := 28) rfl))) rfl
theorem m_509 : Cond.code yM_drop cM_drop 1 (some .boolean) ∈ tb := tb_of (List.mem_append_right _ (List.mem_append_right _ (List.mem_of_getElem? (i := 29) rfl))) rfl
theorem m_510 : Cond.methodLink RL 51 yM_sound ∈ tb := tb_of (List.mem_append_right _ (List.mem_append_right _ (List.mem_of_getElem? (i := 30) rfl))) rfl
theorem m_511 : Cond.instanceMethod yM_sound ∈ tb := tb_of (List.mem_append_right _ (List.mem_append_right _ (List.mem_of_getElem? (i := 31) rfl))) rfl
theorem m_512 : Cond.selects RM yM_sound yM_sound ∈ tb := tb_of (List.mem_append_right _ (List.mem_append_right _ (List.mem_of_getElem? (i := 32) rfl))) rfl
theorem m_513 : Cond.code yM_sound cM_sound 5 (some .boolean) ∈ tb := tb_of (List.mem_append_right _ (List.mem_append_right _ (List.mem_of_getElem? (i := 33) rfl))) rfl
theorem m_514 : Cond.methodLink RL 55 yM_frames ∈ tb := tb_of (List.mem_append_right _ (List.mem_append_right _ (List.mem_of_getElem? (i := 34) rfl))) rfl
theorem m_515 : Cond.instanceMethod yM_frames ∈ tb := tb_of (List.mem_append_right _ (List.mem_append_right _ (List.mem_of_getElem? (i := 35) rfl))) rfl
theorem m_516 : Cond.selects RM yM_frames yM_frames ∈ tb := tb_of (List.mem_append_right _ (List.mem_append_right _ (List.mem_of_getElem? (i := 36) rfl))) rfl
theorem m_517 : Cond.code yM_frames cM_frames 1 (some .int) ∈ tb := tb_of (List.mem_append_right _ (List.mem_append_right _ (List.mem_of_getElem? (i := 37) rfl))) rfl
theorem m_518 : Cond.methodLink RL 63 yM_total ∈ tb := tb_of (List.mem_append_right _ (List.mem_append_right _ (List.mem_of_getElem? (i := 38) rfl))) rfl
theorem m_519 : Cond.instanceMethod yM_total ∈ tb := tb_of (List.mem_append_right _ (List.mem_append_right _ (List.mem_of_getElem? (i := 39) rfl))) rfl
theorem m_520 : Cond.selects RM yM_total yM_total ∈ tb := tb_of (List.mem_append_right _ (List.mem_append_right _ (List.mem_of_getElem? (i := 40) rfl))) rfl
theorem m_521 : Cond.code yM_total cM_total 1 (some .int) ∈ tb := tb_of (List.mem_append_right _ (List.mem_append_right _ (List.mem_of_getElem? (i := 41) rfl))) rfl
theorem m_522 : Cond.methodLink RM 120 yM_whole ∈ tb := tb_of (List.mem_append_right _ (List.mem_append_right _ (List.mem_of_getElem? (i := 42) rfl))) rfl
theorem m_524 : Cond.instanceMethod yM_whole ∈ tb := tb_of (List.mem_append_right _ (List.mem_append_right _ (List.mem_of_getElem? (i := 44) rfl))) rfl
theorem m_525 : Cond.code yM_whole cM_whole 10 none ∈ tb := tb_of (List.mem_append_right _ (List.mem_append_right _ (List.mem_of_getElem? (i := 45) rfl))) rfl
theorem m_526 : Cond.methodLink RM 107 yM_run ∈ tb := tb_of (List.mem_append_right _ (List.mem_append_right _ (List.mem_of_getElem? (i := 46) rfl))) rfl
theorem m_528 : Cond.instanceMethod yM_run ∈ tb := tb_of (List.mem_append_right _ (List.mem_append_right _ (List.mem_of_getElem? (i := 48) rfl))) rfl
theorem m_529 : Cond.code yM_run cM_run 4 none ∈ tb := tb_of (List.mem_append_right _ (List.mem_append_right _ (List.mem_of_getElem? (i := 49) rfl))) rfl
theorem m_530 : Cond.methodLink RM 97 yM_clear ∈ tb := tb_of (List.mem_append_right _ (List.mem_append_right _ (List.mem_of_getElem? (i := 50) rfl))) rfl
theorem m_532 : Cond.instanceMethod yM_clear ∈ tb := tb_of (List.mem_append_right _ (List.mem_append_right _ (List.mem_of_getElem? (i := 52) rfl))) rfl
theorem m_533 : Cond.code yM_clear cM_clear 2 none ∈ tb := tb_of (List.mem_append_right _ (List.mem_append_right _ (List.mem_of_getElem? (i := 53) rfl))) rfl
theorem m_534 : Cond.methodLink RM 90 yM_come ∈ tb := tb_of (List.mem_append_right _ (List.mem_append_right _ (List.mem_of_getElem? (i := 54) rfl))) rfl
theorem m_536 : Cond.instanceMethod yM_come ∈ tb := tb_of (List.mem_append_right _ (List.mem_append_right _ (List.mem_of_getElem? (i := 56) rfl))) rfl
theorem m_537 : Cond.code yM_come cM_come 11 none ∈ tb := tb_of (List.mem_append_right _ (List.mem_append_right _ (List.mem_of_getElem? (i := 57) rfl))) rfl
theorem m_538 : Cond.methodLink RM 100 yM_take ∈ tb := tb_of (List.mem_append_right _ (List.mem_append_right _ (List.mem_of_getElem? (i := 58) rfl))) rfl
theorem m_540 : Cond.instanceMethod yM_take ∈ tb := tb_of (List.mem_append_right _ (List.mem_append_right _ (List.mem_of_getElem? (i := 60) rfl))) rfl
theorem m_541 : Cond.code yM_take cM_take 2 none ∈ tb := tb_of (List.mem_append_right _ (List.mem_append_right _ (List.mem_of_getElem? (i := 61) rfl))) rfl
theorem m_542 : Cond.methodLink RM 103 yM_go ∈ tb := tb_of (List.mem_append_right _ (List.mem_append_right _ (List.mem_of_getElem? (i := 62) rfl))) rfl
theorem m_544 : Cond.instanceMethod yM_go ∈ tb := tb_of (List.mem_append_right _ (List.mem_append_right _ (List.mem_of_getElem? (i := 64) rfl))) rfl
theorem m_545 : Cond.code yM_go cM_go 9 none ∈ tb := tb_of (List.mem_append_right _ (List.mem_append_right _ (List.mem_of_getElem? (i := 65) rfl))) rfl
theorem m_546 : Cond.methodLink RM 94 yM_after ∈ tb := tb_of (List.mem_append_right _ (List.mem_append_right _ (List.mem_of_getElem? (i := 66) rfl))) rfl
theorem m_547 : Cond.methodLink RL 67 yM_length ∈ tb := tb_of (List.mem_append_right _ (List.mem_append_right _ (List.mem_of_getElem? (i := 67) rfl))) rfl
theorem m_548 : Cond.instanceMethod yM_length ∈ tb := tb_of (List.mem_append_right _ (List.mem_append_right _ (List.mem_of_getElem? (i := 68) rfl))) rfl
theorem m_549 : Cond.selects RM yM_length yM_length ∈ tb := tb_of (List.mem_append_right _ (List.mem_append_right _ (List.mem_of_getElem? (i := 69) rfl))) rfl
theorem m_550 : Cond.code yM_length cM_length 1 (some .int) ∈ tb := tb_of (List.mem_append_right _ (List.mem_append_right _ (List.mem_of_getElem? (i := 70) rfl))) rfl
theorem m_551 : Cond.methodLink RL 72 yM_wordAt ∈ tb := tb_of (List.mem_append_right _ (List.mem_append_right _ (List.mem_of_getElem? (i := 71) rfl))) rfl
theorem m_552 : Cond.instanceMethod yM_wordAt ∈ tb := tb_of (List.mem_append_right _ (List.mem_append_right _ (List.mem_of_getElem? (i := 72) rfl))) rfl
theorem m_553 : Cond.selects RM yM_wordAt yM_wordAt ∈ tb := tb_of (List.mem_append_right _ (List.mem_append_right _ (List.mem_of_getElem? (i := 73) rfl))) rfl
theorem m_554 : Cond.code yM_wordAt cM_wordAt 2 (some .int) ∈ tb := tb_of (List.mem_append_right _ (List.mem_append_right _ (List.mem_of_getElem? (i := 74) rfl))) rfl
theorem m_555 : Cond.methodLink RL 76 yM_live ∈ tb := tb_of (List.mem_append_right _ (List.mem_append_right _ (List.mem_of_getElem? (i := 75) rfl))) rfl
theorem m_556 : Cond.instanceMethod yM_live ∈ tb := tb_of (List.mem_append_right _ (List.mem_append_right _ (List.mem_of_getElem? (i := 76) rfl))) rfl
theorem m_557 : Cond.selects RM yM_live yM_live ∈ tb := tb_of (List.mem_append_right _ (List.mem_append_right _ (List.mem_of_getElem? (i := 77) rfl))) rfl
theorem m_558 : Cond.code yM_live cM_live 4 (some .int) ∈ tb := tb_of (List.mem_append_right _ (List.mem_append_right _ (List.mem_of_getElem? (i := 78) rfl))) rfl
theorem m_559 : Cond.methodLink RL 80 yM_best ∈ tb := tb_of (List.mem_append_right _ (List.mem_append_right _ (List.mem_of_getElem? (i := 79) rfl))) rfl
theorem m_560 : Cond.instanceMethod yM_best ∈ tb := tb_of (List.mem_append_right _ (List.mem_append_right _ (List.mem_of_getElem? (i := 80) rfl))) rfl
theorem m_561 : Cond.selects RM yM_best yM_best ∈ tb := tb_of (List.mem_append_right _ (List.mem_append_right _ (List.mem_of_getElem? (i := 81) rfl))) rfl
theorem m_562 : Cond.code yM_best cM_best 4 (some .int) ∈ tb := tb_of (List.mem_append_right _ (List.mem_append_right _ (List.mem_of_getElem? (i := 82) rfl))) rfl
theorem ms_0 : Cond.selects RT yT_childOf yT_childOf ∈ tb := tb_sel (List.mem_of_getElem? (i := 0) rfl) rfl
theorem ms_1 : Cond.selects RT yT_grow yT_grow ∈ tb := tb_sel (List.mem_of_getElem? (i := 1) rfl) rfl
theorem ms_2 : Cond.selects RG yG_costOfTwo yG_costOfTwo ∈ tb := tb_sel (List.mem_of_getElem? (i := 2) rfl) rfl
theorem ms_3 : Cond.selects RX yX_searchOnce yX_searchOnce ∈ tb := tb_sel (List.mem_of_getElem? (i := 3) rfl) rfl
theorem ms_4 : Cond.selects RQ yQ_hear yQ_hear ∈ tb := tb_sel (List.mem_of_getElem? (i := 4) rfl) rfl
theorem ms_5 : Cond.selects RQ yQ_coming yQ_coming ∈ tb := tb_sel (List.mem_of_getElem? (i := 5) rfl) rfl
theorem ms_6 : Cond.selects RQ yQ_leaving yQ_leaving ∈ tb := tb_sel (List.mem_of_getElem? (i := 6) rfl) rfl
theorem ms_7 : Cond.selects RQ yQ_endWords yQ_endWords ∈ tb := tb_sel (List.mem_of_getElem? (i := 7) rfl) rfl
theorem ms_8 : Cond.selects RQ yQ_measure yQ_measure ∈ tb := tb_sel (List.mem_of_getElem? (i := 8) rfl) rfl
theorem ms_9 : Cond.selects RQ yQ_endPath yQ_endPath ∈ tb := tb_sel (List.mem_of_getElem? (i := 9) rfl) rfl
theorem ms_10 : Cond.selects RX yX_isFrameCount yX_isFrameCount ∈ tb := tb_sel (List.mem_of_getElem? (i := 10) rfl) rfl
theorem ms_11 : Cond.selects RM yM_fresh yM_fresh ∈ tb := tb_sel (List.mem_of_getElem? (i := 11) rfl) rfl
theorem ms_12 : Cond.selects RM yM_begins yM_begins ∈ tb := tb_sel (List.mem_of_getElem? (i := 12) rfl) rfl
theorem ms_13 : Cond.selects RM yM_afterOne yM_afterOne ∈ tb := tb_sel (List.mem_of_getElem? (i := 13) rfl) rfl
theorem ms_14 : Cond.selects RM yM_back yM_back ∈ tb := tb_sel (List.mem_of_getElem? (i := 14) rfl) rfl
theorem ms_15 : Cond.selects RM yM_whole yM_whole ∈ tb := tb_sel (List.mem_of_getElem? (i := 15) rfl) rfl
theorem ms_16 : Cond.selects RM yM_run yM_run ∈ tb := tb_sel (List.mem_of_getElem? (i := 16) rfl) rfl
theorem ms_17 : Cond.selects RM yM_clear yM_clear ∈ tb := tb_sel (List.mem_of_getElem? (i := 17) rfl) rfl
theorem ms_18 : Cond.selects RM yM_come yM_come ∈ tb := tb_sel (List.mem_of_getElem? (i := 18) rfl) rfl
theorem ms_19 : Cond.selects RM yM_take yM_take ∈ tb := tb_sel (List.mem_of_getElem? (i := 19) rfl) rfl
theorem ms_20 : Cond.selects RM yM_go yM_go ∈ tb := tb_sel (List.mem_of_getElem? (i := 20) rfl) rfl
theorem inX : ∀ w ∈ u_ws RX TX 5, w ∈ tb := by
  intro w hw
  obtain ⟨k, hk, rfl⟩ := List.mem_map.mp hw
  have hk := List.mem_range.mp hk
  match k, hk with
  | 0, _ => exact tb_of (List.mem_append_left _ (List.mem_of_getElem? (i := 118) rfl)) rfl
  | 1, _ => exact tb_of (List.mem_append_left _ (List.mem_of_getElem? (i := 120) rfl)) rfl
  | 2, _ => exact tb_of (List.mem_append_left _ (List.mem_of_getElem? (i := 122) rfl)) rfl
  | 3, _ => exact tb_of (List.mem_append_left _ (List.mem_of_getElem? (i := 124) rfl)) rfl
  | 4, _ => exact tb_of (List.mem_append_left _ (List.mem_of_getElem? (i := 126) rfl)) rfl
  | k + 5, h => exact absurd h (by omega)
theorem inT : ∀ w ∈ u_ws RT TT 6, w ∈ tb := by
  intro w hw
  obtain ⟨k, hk, rfl⟩ := List.mem_map.mp hw
  have hk := List.mem_range.mp hk
  match k, hk with
  | 0, _ => exact tb_of (List.mem_append_left _ (List.mem_of_getElem? (i := 30) rfl)) rfl
  | 1, _ => exact tb_of (List.mem_append_left _ (List.mem_of_getElem? (i := 32) rfl)) rfl
  | 2, _ => exact tb_of (List.mem_append_left _ (List.mem_of_getElem? (i := 34) rfl)) rfl
  | 3, _ => exact tb_of (List.mem_append_left _ (List.mem_of_getElem? (i := 36) rfl)) rfl
  | 4, _ => exact tb_of (List.mem_append_left _ (List.mem_of_getElem? (i := 38) rfl)) rfl
  | 5, _ => exact tb_of (List.mem_append_left _ (List.mem_of_getElem? (i := 40) rfl)) rfl
  | k + 6, h => exact absurd h (by omega)
theorem inG : ∀ w ∈ u_ws RG TG 2, w ∈ tb := by
  intro w hw
  obtain ⟨k, hk, rfl⟩ := List.mem_map.mp hw
  have hk := List.mem_range.mp hk
  match k, hk with
  | 0, _ => exact tb_of (List.mem_append_left _ (List.mem_of_getElem? (i := 56) rfl)) rfl
  | 1, _ => exact tb_of (List.mem_append_left _ (List.mem_of_getElem? (i := 58) rfl)) rfl
  | k + 2, h => exact absurd h (by omega)
theorem inS : ∀ w ∈ u_ws RS TS 4, w ∈ tb := by
  intro w hw
  obtain ⟨k, hk, rfl⟩ := List.mem_map.mp hw
  have hk := List.mem_range.mp hk
  match k, hk with
  | 0, _ => exact tb_of (List.mem_append_left _ (List.mem_of_getElem? (i := 71) rfl)) rfl
  | 1, _ => exact tb_of (List.mem_append_left _ (List.mem_of_getElem? (i := 73) rfl)) rfl
  | 2, _ => exact tb_of (List.mem_append_left _ (List.mem_of_getElem? (i := 75) rfl)) rfl
  | 3, _ => exact tb_of (List.mem_append_left _ (List.mem_of_getElem? (i := 77) rfl)) rfl
  | k + 4, h => exact absurd h (by omega)
theorem inQ : ∀ w ∈ u_ws RQ TQ 8, w ∈ tb := by
  intro w hw
  obtain ⟨k, hk, rfl⟩ := List.mem_map.mp hw
  have hk := List.mem_range.mp hk
  match k, hk with
  | 0, _ => exact tb_of (List.mem_append_left _ (List.mem_of_getElem? (i := 95) rfl)) rfl
  | 1, _ => exact tb_of (List.mem_append_left _ (List.mem_of_getElem? (i := 97) rfl)) rfl
  | 2, _ => exact tb_of (List.mem_append_left _ (List.mem_of_getElem? (i := 99) rfl)) rfl
  | 3, _ => exact tb_of (List.mem_append_left _ (List.mem_of_getElem? (i := 101) rfl)) rfl
  | 4, _ => exact tb_of (List.mem_append_left _ (List.mem_of_getElem? (i := 103) rfl)) rfl
  | 5, _ => exact tb_of (List.mem_append_left _ (List.mem_of_getElem? (i := 105) rfl)) rfl
  | 6, _ => exact tb_of (List.mem_append_left _ (List.mem_of_getElem? (i := 107) rfl)) rfl
  | 7, _ => exact tb_of (List.mem_append_left _ (List.mem_of_getElem? (i := 109) rfl)) rfl
  | k + 8, h => exact absurd h (by omega)
theorem inM : ∀ w ∈ u_ws RM TM 20, w ∈ tb := by
  intro w hw
  obtain ⟨k, hk, rfl⟩ := List.mem_map.mp hw
  have hk := List.mem_range.mp hk
  match k, hk with
  | 0, _ => exact tb_of (List.mem_append_right _ (List.mem_append_left _ (List.mem_of_getElem? (i := 174) rfl))) rfl
  | 1, _ => exact tb_of (List.mem_append_right _ (List.mem_append_left _ (List.mem_of_getElem? (i := 176) rfl))) rfl
  | 2, _ => exact tb_of (List.mem_append_right _ (List.mem_append_left _ (List.mem_of_getElem? (i := 178) rfl))) rfl
  | 3, _ => exact tb_of (List.mem_append_right _ (List.mem_append_left _ (List.mem_of_getElem? (i := 180) rfl))) rfl
  | 4, _ => exact tb_of (List.mem_append_right _ (List.mem_append_left _ (List.mem_of_getElem? (i := 182) rfl))) rfl
  | 5, _ => exact tb_of (List.mem_append_right _ (List.mem_append_left _ (List.mem_of_getElem? (i := 184) rfl))) rfl
  | 6, _ => exact tb_of (List.mem_append_right _ (List.mem_append_left _ (List.mem_of_getElem? (i := 186) rfl))) rfl
  | 7, _ => exact tb_of (List.mem_append_right _ (List.mem_append_left _ (List.mem_of_getElem? (i := 188) rfl))) rfl
  | 8, _ => exact tb_of (List.mem_append_right _ (List.mem_append_left _ (List.mem_of_getElem? (i := 190) rfl))) rfl
  | 9, _ => exact tb_of (List.mem_append_right _ (List.mem_append_left _ (List.mem_of_getElem? (i := 192) rfl))) rfl
  | 10, _ => exact tb_of (List.mem_append_right _ (List.mem_append_left _ (List.mem_of_getElem? (i := 194) rfl))) rfl
  | 11, _ => exact tb_of (List.mem_append_right _ (List.mem_append_left _ (List.mem_of_getElem? (i := 196) rfl))) rfl
  | 12, _ => exact tb_of (List.mem_append_right _ (List.mem_append_left _ (List.mem_of_getElem? (i := 198) rfl))) rfl
  | 13, _ => exact tb_of (List.mem_append_right _ (List.mem_append_left _ (List.mem_of_getElem? (i := 200) rfl))) rfl
  | 14, _ => exact tb_of (List.mem_append_right _ (List.mem_append_left _ (List.mem_of_getElem? (i := 202) rfl))) rfl
  | 15, _ => exact tb_of (List.mem_append_right _ (List.mem_append_left _ (List.mem_of_getElem? (i := 204) rfl))) rfl
  | 16, _ => exact tb_of (List.mem_append_right _ (List.mem_append_left _ (List.mem_of_getElem? (i := 206) rfl))) rfl
  | 17, _ => exact tb_of (List.mem_append_right _ (List.mem_append_left _ (List.mem_of_getElem? (i := 208) rfl))) rfl
  | 18, _ => exact tb_of (List.mem_append_right _ (List.mem_append_left _ (List.mem_of_getElem? (i := 210) rfl))) rfl
  | 19, _ => exact tb_of (List.mem_append_right _ (List.mem_append_left _ (List.mem_of_getElem? (i := 212) rfl))) rfl
  | k + 20, h => exact absurd h (by omega)
theorem tb_good : ∀ w ∈ tb, (w.onTables && w.keeps) = true ∨ ∃ ty, w = .arrayClass ty := fun w h => good_of_word (List.mem_filter.mp h).2
theorem tb_in : ∀ w ∈ tb, w ∈ lw_tbl := fun w h => (List.mem_filter.mp h).1
theorem good_C {c : Cond} (h : c ∈ tb) : GoodIn tb (c :: tb) := fun w hw => (List.mem_cons.mp hw).elim (fun e => by subst e; exact ⟨h, tb_good _ h⟩) (fun q => ⟨q, tb_good _ q⟩)
theorem good_V {own C : String} {idx : Nat} {y : MethodName} {c : Cond} (h1 : Cond.methodLink own idx y ∈ tb) (h2 : Cond.instanceMethod y ∈ tb) (h3 : Cond.selects C y y ∈ tb) (h4 : Cond.initialized C ∈ tb) (h : c ∈ tb) : GoodIn tb (wsV own idx C y (c :: tb)) := by
  intro w hw
  unfold wsV at hw
  rcases List.mem_append.mp hw with q | q
  · simp only [List.mem_cons, List.not_mem_nil, or_false] at q
    rcases q with rfl | rfl | rfl | rfl
    · exact ⟨h1, tb_good _ h1⟩
    · exact ⟨h2, tb_good _ h2⟩
    · exact ⟨h3, tb_good _ h3⟩
    · exact ⟨h4, tb_good _ h4⟩
  · exact good_C h w q
theorem good_S {own : String} {idx : Nat} {y : MethodName} {c : Cond} (h1 : Cond.methodLink own idx y ∈ tb) (h2 : Cond.static y ∈ tb) (h3 : Cond.initialized y.cls ∈ tb) (h : c ∈ tb) : GoodIn tb (va_wsS own idx y (c :: tb)) := by
  intro w hw
  unfold va_wsS at hw
  rcases List.mem_append.mp hw with q | q
  · simp only [List.mem_cons, List.not_mem_nil, or_false] at q
    rcases q with rfl | rfl | rfl
    · exact ⟨h1, tb_good _ h1⟩
    · exact ⟨h2, tb_good _ h2⟩
    · exact ⟨h3, tb_good _ h3⟩
  · exact good_C h w q
def wt_nest (U : State) : Prop := va_Nw (Cond.methodLinkNest RG 24 yX_isWordOrEdge RX) U ∧ va_Nw (Cond.methodLinkNest RG 28 yX_isWord RX) U
theorem wt_nest_same {u U : State} (h : u.vm = U.vm) (q : wt_nest u) : wt_nest U := ⟨va_Nw.same rfl h q.1, va_Nw.same rfl h q.2⟩
theorem wt_nest_warm {s U : State} (hW : s.WarmedH U.vm) (q : wt_nest s) : wt_nest U := ⟨va_Nw.warmM hW q.1, va_Nw.warmM hW q.2⟩
end
section
theorem dX_init_0 : decode cX_init 0 = .ok (.aload_n 0, 1) := by decide +kernel
theorem dX_init_1 : decode cX_init 1 = .ok (.invokespecial 3, 3) := by decide +kernel
theorem dX_init_4 : decode cX_init 4 = .ok (.aload_n 0, 1) := by decide +kernel
theorem dX_init_5 : decode cX_init 5 = .ok (.new 9, 3) := by decide +kernel
theorem dX_init_8 : decode cX_init 8 = .ok (.dup, 1) := by decide +kernel
theorem dX_init_9 : decode cX_init 9 = .ok (.invokespecial 11, 3) := by decide +kernel
theorem dX_init_12 : decode cX_init 12 = .ok (.putfield 12, 3) := by decide +kernel
theorem dX_init_15 : decode cX_init 15 = .ok (.aload_n 0, 1) := by decide +kernel
theorem dX_init_16 : decode cX_init 16 = .ok (.new 16, 3) := by decide +kernel
theorem dX_init_19 : decode cX_init 19 = .ok (.dup, 1) := by decide +kernel
theorem dX_init_20 : decode cX_init 20 = .ok (.invokespecial 18, 3) := by decide +kernel
theorem dX_init_23 : decode cX_init 23 = .ok (.putfield 19, 3) := by decide +kernel
theorem dX_init_26 : decode cX_init 26 = .ok (.aload_n 0, 1) := by decide +kernel
theorem dX_init_27 : decode cX_init 27 = .ok (.new 23, 3) := by decide +kernel
theorem dX_init_30 : decode cX_init 30 = .ok (.dup, 1) := by decide +kernel
theorem dX_init_31 : decode cX_init 31 = .ok (.invokespecial 25, 3) := by decide +kernel
theorem dX_init_34 : decode cX_init 34 = .ok (.putfield 26, 3) := by decide +kernel
theorem dX_init_37 : decode cX_init 37 = .ok (.aload_n 0, 1) := by decide +kernel
theorem dX_init_38 : decode cX_init 38 = .ok (.new 30, 3) := by decide +kernel
theorem dX_init_41 : decode cX_init 41 = .ok (.dup, 1) := by decide +kernel
theorem dX_init_42 : decode cX_init 42 = .ok (.aload_n 0, 1) := by decide +kernel
theorem dX_init_43 : decode cX_init 43 = .ok (.getfield 12, 3) := by decide +kernel
theorem dX_init_46 : decode cX_init 46 = .ok (.aload_n 0, 1) := by decide +kernel
theorem dX_init_47 : decode cX_init 47 = .ok (.getfield 19, 3) := by decide +kernel
theorem dX_init_50 : decode cX_init 50 = .ok (.aload_n 0, 1) := by decide +kernel
theorem dX_init_51 : decode cX_init 51 = .ok (.getfield 26, 3) := by decide +kernel
theorem dX_init_54 : decode cX_init 54 = .ok (.invokespecial 32, 3) := by decide +kernel
theorem dX_init_57 : decode cX_init 57 = .ok (.putfield 35, 3) := by decide +kernel
theorem dX_init_60 : decode cX_init 60 = .ok (.aload_n 0, 1) := by decide +kernel
theorem dX_init_61 : decode cX_init 61 = .ok (.iconst 0, 1) := by decide +kernel
theorem dX_init_62 : decode cX_init 62 = .ok (.putfield 39, 3) := by decide +kernel
theorem dX_init_65 : decode cX_init 65 = .ok (.return_, 1) := by decide +kernel
theorem dX_say_0 : decode cX_say 0 = .ok (.iload_n 1, 1) := by decide +kernel
theorem dX_say_1 : decode cX_say 1 = .ok (.invokestatic 43, 3) := by decide +kernel
theorem dX_say_4 : decode cX_say 4 = .ok (.ifCond .eq 38, 3) := by decide +kernel
theorem dX_say_7 : decode cX_say 7 = .ok (.iload_n 2, 1) := by decide +kernel
theorem dX_say_8 : decode cX_say 8 = .ok (.iload_n 3, 1) := by decide +kernel
theorem dX_say_9 : decode cX_say 9 = .ok (.iload 4, 2) := by decide +kernel
theorem dX_say_11 : decode cX_say 11 = .ok (.invokestatic 47, 3) := by decide +kernel
theorem dX_say_14 : decode cX_say 14 = .ok (.ifCond .eq 28, 3) := by decide +kernel
theorem dX_say_17 : decode cX_say 17 = .ok (.aload_n 0, 1) := by decide +kernel
theorem dX_say_18 : decode cX_say 18 = .ok (.getfield 12, 3) := by decide +kernel
theorem dX_say_21 : decode cX_say 21 = .ok (.invokevirtual 51, 3) := by decide +kernel
theorem dX_say_24 : decode cX_say 24 = .ok (.ifCond .ne 18, 3) := by decide +kernel
theorem dX_say_27 : decode cX_say 27 = .ok (.aload_n 0, 1) := by decide +kernel
theorem dX_say_28 : decode cX_say 28 = .ok (.getfield 12, 3) := by decide +kernel
theorem dX_say_31 : decode cX_say 31 = .ok (.iload_n 1, 1) := by decide +kernel
theorem dX_say_32 : decode cX_say 32 = .ok (.iload_n 2, 1) := by decide +kernel
theorem dX_say_33 : decode cX_say 33 = .ok (.iload_n 3, 1) := by decide +kernel
theorem dX_say_34 : decode cX_say 34 = .ok (.iload 4, 2) := by decide +kernel
theorem dX_say_36 : decode cX_say 36 = .ok (.invokevirtual 55, 3) := by decide +kernel
theorem dX_say_39 : decode cX_say 39 = .ok (.ifCond .eq 5, 3) := by decide +kernel
theorem dX_say_42 : decode cX_say 42 = .ok (.iconst (-1), 1) := by decide +kernel
theorem dX_say_43 : decode cX_say 43 = .ok (.ireturn, 1) := by decide +kernel
theorem dX_say_44 : decode cX_say 44 = .ok (.aload_n 0, 1) := by decide +kernel
theorem dX_say_45 : decode cX_say 45 = .ok (.getfield 12, 3) := by decide +kernel
theorem dX_say_48 : decode cX_say 48 = .ok (.iload_n 1, 1) := by decide +kernel
theorem dX_say_49 : decode cX_say 49 = .ok (.iload_n 2, 1) := by decide +kernel
theorem dX_say_50 : decode cX_say 50 = .ok (.iload_n 3, 1) := by decide +kernel
theorem dX_say_51 : decode cX_say 51 = .ok (.iload 4, 2) := by decide +kernel
theorem dX_say_53 : decode cX_say 53 = .ok (.invokevirtual 59, 3) := by decide +kernel
theorem dX_say_56 : decode cX_say 56 = .ok (.aload_n 0, 1) := by decide +kernel
theorem dX_say_57 : decode cX_say 57 = .ok (.iconst 0, 1) := by decide +kernel
theorem dX_say_58 : decode cX_say 58 = .ok (.putfield 39, 3) := by decide +kernel
theorem dX_say_61 : decode cX_say 61 = .ok (.aload_n 0, 1) := by decide +kernel
theorem dX_say_62 : decode cX_say 62 = .ok (.getfield 12, 3) := by decide +kernel
theorem dX_say_65 : decode cX_say 65 = .ok (.invokevirtual 63, 3) := by decide +kernel
theorem dX_say_68 : decode cX_say 68 = .ok (.ireturn, 1) := by decide +kernel
theorem dX_gram_0 : decode cX_gram 0 = .ok (.iload_n 1, 1) := by decide +kernel
theorem dX_gram_1 : decode cX_gram 1 = .ok (.iload_n 2, 1) := by decide +kernel
theorem dX_gram_2 : decode cX_gram 2 = .ok (.iload_n 3, 1) := by decide +kernel
theorem dX_gram_3 : decode cX_gram 3 = .ok (.invokestatic 67, 3) := by decide +kernel
theorem dX_gram_6 : decode cX_gram 6 = .ok (.ifCond .eq 19, 3) := by decide +kernel
theorem dX_gram_9 : decode cX_gram 9 = .ok (.iload 4, 2) := by decide +kernel
theorem dX_gram_11 : decode cX_gram 11 = .ok (.invokestatic 70, 3) := by decide +kernel
theorem dX_gram_14 : decode cX_gram 14 = .ok (.ifCond .eq 11, 3) := by decide +kernel
theorem dX_gram_17 : decode cX_gram 17 = .ok (.iload 5, 2) := by decide +kernel
theorem dX_gram_19 : decode cX_gram 19 = .ok (.invokestatic 70, 3) := by decide +kernel
theorem dX_gram_22 : decode cX_gram 22 = .ok (.ifCond .ne 5, 3) := by decide +kernel
theorem dX_gram_25 : decode cX_gram 25 = .ok (.iconst 0, 1) := by decide +kernel
theorem dX_gram_26 : decode cX_gram 26 = .ok (.ireturn, 1) := by decide +kernel
theorem dX_gram_27 : decode cX_gram 27 = .ok (.aload_n 0, 1) := by decide +kernel
theorem dX_gram_28 : decode cX_gram 28 = .ok (.getfield 19, 3) := by decide +kernel
theorem dX_gram_31 : decode cX_gram 31 = .ok (.iload_n 1, 1) := by decide +kernel
theorem dX_gram_32 : decode cX_gram 32 = .ok (.iload_n 2, 1) := by decide +kernel
theorem dX_gram_33 : decode cX_gram 33 = .ok (.iload_n 3, 1) := by decide +kernel
theorem dX_gram_34 : decode cX_gram 34 = .ok (.iload 4, 2) := by decide +kernel
theorem dX_gram_36 : decode cX_gram 36 = .ok (.iload 5, 2) := by decide +kernel
theorem dX_gram_38 : decode cX_gram 38 = .ok (.invokevirtual 73, 3) := by decide +kernel
theorem dX_gram_41 : decode cX_gram 41 = .ok (.aload_n 0, 1) := by decide +kernel
theorem dX_gram_42 : decode cX_gram 42 = .ok (.iconst 0, 1) := by decide +kernel
theorem dX_gram_43 : decode cX_gram 43 = .ok (.putfield 39, 3) := by decide +kernel
theorem dX_gram_46 : decode cX_gram 46 = .ok (.iconst 1, 1) := by decide +kernel
theorem dX_gram_47 : decode cX_gram 47 = .ok (.ireturn, 1) := by decide +kernel
theorem dX_ungram_0 : decode cX_ungram 0 = .ok (.iload_n 1, 1) := by decide +kernel
theorem dX_ungram_1 : decode cX_ungram 1 = .ok (.iload_n 2, 1) := by decide +kernel
theorem dX_ungram_2 : decode cX_ungram 2 = .ok (.iload_n 3, 1) := by decide +kernel
theorem dX_ungram_3 : decode cX_ungram 3 = .ok (.invokestatic 67, 3) := by decide +kernel
theorem dX_ungram_6 : decode cX_ungram 6 = .ok (.ifCond .eq 16, 3) := by decide +kernel
theorem dX_ungram_9 : decode cX_ungram 9 = .ok (.aload_n 0, 1) := by decide +kernel
theorem dX_ungram_10 : decode cX_ungram 10 = .ok (.getfield 19, 3) := by decide +kernel
theorem dX_ungram_13 : decode cX_ungram 13 = .ok (.iload_n 1, 1) := by decide +kernel
theorem dX_ungram_14 : decode cX_ungram 14 = .ok (.iload_n 2, 1) := by decide +kernel
theorem dX_ungram_15 : decode cX_ungram 15 = .ok (.iload_n 3, 1) := by decide +kernel
theorem dX_ungram_16 : decode cX_ungram 16 = .ok (.invokevirtual 77, 3) := by decide +kernel
theorem dX_ungram_19 : decode cX_ungram 19 = .ok (.ifCond .ne 5, 3) := by decide +kernel
theorem dX_ungram_22 : decode cX_ungram 22 = .ok (.iconst 0, 1) := by decide +kernel
theorem dX_ungram_23 : decode cX_ungram 23 = .ok (.ireturn, 1) := by decide +kernel
theorem dX_ungram_24 : decode cX_ungram 24 = .ok (.aload_n 0, 1) := by decide +kernel
theorem dX_ungram_25 : decode cX_ungram 25 = .ok (.getfield 19, 3) := by decide +kernel
theorem dX_ungram_28 : decode cX_ungram 28 = .ok (.iload_n 1, 1) := by decide +kernel
theorem dX_ungram_29 : decode cX_ungram 29 = .ok (.iload_n 2, 1) := by decide +kernel
theorem dX_ungram_30 : decode cX_ungram 30 = .ok (.iload_n 3, 1) := by decide +kernel
theorem dX_ungram_31 : decode cX_ungram 31 = .ok (.invokevirtual 79, 3) := by decide +kernel
theorem dX_ungram_34 : decode cX_ungram 34 = .ok (.aload_n 0, 1) := by decide +kernel
theorem dX_ungram_35 : decode cX_ungram 35 = .ok (.iconst 0, 1) := by decide +kernel
theorem dX_ungram_36 : decode cX_ungram 36 = .ok (.putfield 39, 3) := by decide +kernel
theorem dX_ungram_39 : decode cX_ungram 39 = .ok (.iconst 1, 1) := by decide +kernel
theorem dX_ungram_40 : decode cX_ungram 40 = .ok (.ireturn, 1) := by decide +kernel
theorem dX_after_0 : decode cX_after 0 = .ok (.iload_n 3, 1) := by decide +kernel
theorem dX_after_1 : decode cX_after 1 = .ok (.invokestatic 83, 3) := by decide +kernel
theorem dX_after_4 : decode cX_after 4 = .ok (.ifCond .eq 27, 3) := by decide +kernel
theorem dX_after_7 : decode cX_after 7 = .ok (.iload_n 2, 1) := by decide +kernel
theorem dX_after_8 : decode cX_after 8 = .ok (.invokestatic 83, 3) := by decide +kernel
theorem dX_after_11 : decode cX_after 11 = .ok (.ifCond .eq 20, 3) := by decide +kernel
theorem dX_after_14 : decode cX_after 14 = .ok (.iload_n 1, 1) := by decide +kernel
theorem dX_after_15 : decode cX_after 15 = .ok (.invokestatic 83, 3) := by decide +kernel
theorem dX_after_18 : decode cX_after 18 = .ok (.ifCond .eq 13, 3) := by decide +kernel
theorem dX_after_21 : decode cX_after 21 = .ok (.iload_n 2, 1) := by decide +kernel
theorem dX_after_22 : decode cX_after 22 = .ok (.iconst 4, 1) := by decide +kernel
theorem dX_after_23 : decode cX_after 23 = .ok (.if_icmp .ne 10, 3) := by decide +kernel
theorem dX_after_26 : decode cX_after 26 = .ok (.iload_n 1, 1) := by decide +kernel
theorem dX_after_27 : decode cX_after 27 = .ok (.iconst 4, 1) := by decide +kernel
theorem dX_after_28 : decode cX_after 28 = .ok (.if_icmp .eq 5, 3) := by decide +kernel
theorem dX_after_31 : decode cX_after 31 = .ok (.iconst (-1), 1) := by decide +kernel
theorem dX_after_32 : decode cX_after 32 = .ok (.ireturn, 1) := by decide +kernel
theorem dX_after_33 : decode cX_after 33 = .ok (.aload_n 0, 1) := by decide +kernel
theorem dX_after_34 : decode cX_after 34 = .ok (.getfield 19, 3) := by decide +kernel
theorem dX_after_37 : decode cX_after 37 = .ok (.iload_n 1, 1) := by decide +kernel
theorem dX_after_38 : decode cX_after 38 = .ok (.iload_n 2, 1) := by decide +kernel
theorem dX_after_39 : decode cX_after 39 = .ok (.iload_n 3, 1) := by decide +kernel
theorem dX_after_40 : decode cX_after 40 = .ok (.invokevirtual 86, 3) := by decide +kernel
theorem dX_after_43 : decode cX_after 43 = .ok (.ireturn, 1) := by decide +kernel
theorem dX_topology_0 : decode cX_topology 0 = .ok (.iload_n 1, 1) := by decide +kernel
theorem dX_topology_1 : decode cX_topology 1 = .ok (.invokestatic 90, 3) := by decide +kernel
theorem dX_topology_4 : decode cX_topology 4 = .ok (.ifCond .eq 17, 3) := by decide +kernel
theorem dX_topology_7 : decode cX_topology 7 = .ok (.iload_n 2, 1) := by decide +kernel
theorem dX_topology_8 : decode cX_topology 8 = .ok (.invokestatic 70, 3) := by decide +kernel
theorem dX_topology_11 : decode cX_topology 11 = .ok (.ifCond .eq 10, 3) := by decide +kernel
theorem dX_topology_14 : decode cX_topology 14 = .ok (.iload_n 3, 1) := by decide +kernel
theorem dX_topology_15 : decode cX_topology 15 = .ok (.invokestatic 70, 3) := by decide +kernel
theorem dX_topology_18 : decode cX_topology 18 = .ok (.ifCond .ne 5, 3) := by decide +kernel
theorem dX_topology_21 : decode cX_topology 21 = .ok (.iconst 0, 1) := by decide +kernel
theorem dX_topology_22 : decode cX_topology 22 = .ok (.ireturn, 1) := by decide +kernel
theorem dX_topology_23 : decode cX_topology 23 = .ok (.aload_n 0, 1) := by decide +kernel
theorem dX_topology_24 : decode cX_topology 24 = .ok (.getfield 26, 3) := by decide +kernel
theorem dX_topology_27 : decode cX_topology 27 = .ok (.iload_n 1, 1) := by decide +kernel
theorem dX_topology_28 : decode cX_topology 28 = .ok (.iload_n 2, 1) := by decide +kernel
theorem dX_topology_29 : decode cX_topology 29 = .ok (.iload_n 3, 1) := by decide +kernel
theorem dX_topology_30 : decode cX_topology 30 = .ok (.invokevirtual 93, 3) := by decide +kernel
theorem dX_topology_33 : decode cX_topology 33 = .ok (.aload_n 0, 1) := by decide +kernel
theorem dX_topology_34 : decode cX_topology 34 = .ok (.iconst 0, 1) := by decide +kernel
theorem dX_topology_35 : decode cX_topology 35 = .ok (.putfield 39, 3) := by decide +kernel
theorem dX_topology_38 : decode cX_topology 38 = .ok (.iconst 1, 1) := by decide +kernel
theorem dX_topology_39 : decode cX_topology 39 = .ok (.ireturn, 1) := by decide +kernel
theorem dX_frame_0 : decode cX_frame 0 = .ok (.aload_n 0, 1) := by decide +kernel
theorem dX_frame_1 : decode cX_frame 1 = .ok (.getfield 26, 3) := by decide +kernel
theorem dX_frame_4 : decode cX_frame 4 = .ok (.invokevirtual 96, 3) := by decide +kernel
theorem dX_frame_7 : decode cX_frame 7 = .ok (.bipush 15, 2) := by decide +kernel
theorem dX_frame_9 : decode cX_frame 9 = .ok (.if_icmp .lt 5, 3) := by decide +kernel
theorem dX_frame_12 : decode cX_frame 12 = .ok (.iconst (-1), 1) := by decide +kernel
theorem dX_frame_13 : decode cX_frame 13 = .ok (.ireturn, 1) := by decide +kernel
theorem dX_frame_14 : decode cX_frame 14 = .ok (.aload_n 0, 1) := by decide +kernel
theorem dX_frame_15 : decode cX_frame 15 = .ok (.getfield 26, 3) := by decide +kernel
theorem dX_frame_18 : decode cX_frame 18 = .ok (.invokevirtual 99, 3) := by decide +kernel
theorem dX_frame_21 : decode cX_frame 21 = .ok (.aload_n 0, 1) := by decide +kernel
theorem dX_frame_22 : decode cX_frame 22 = .ok (.iconst 0, 1) := by decide +kernel
theorem dX_frame_23 : decode cX_frame 23 = .ok (.putfield 39, 3) := by decide +kernel
theorem dX_frame_26 : decode cX_frame 26 = .ok (.aload_n 0, 1) := by decide +kernel
theorem dX_frame_27 : decode cX_frame 27 = .ok (.getfield 26, 3) := by decide +kernel
theorem dX_frame_30 : decode cX_frame 30 = .ok (.invokevirtual 96, 3) := by decide +kernel
theorem dX_frame_33 : decode cX_frame 33 = .ok (.ireturn, 1) := by decide +kernel
theorem dX_drop_0 : decode cX_drop 0 = .ok (.aload_n 0, 1) := by decide +kernel
theorem dX_drop_1 : decode cX_drop 1 = .ok (.getfield 26, 3) := by decide +kernel
theorem dX_drop_4 : decode cX_drop 4 = .ok (.invokevirtual 96, 3) := by decide +kernel
theorem dX_drop_7 : decode cX_drop 7 = .ok (.ifCond .gt 5, 3) := by decide +kernel
theorem dX_drop_10 : decode cX_drop 10 = .ok (.iconst 0, 1) := by decide +kernel
theorem dX_drop_11 : decode cX_drop 11 = .ok (.ireturn, 1) := by decide +kernel
theorem dX_drop_12 : decode cX_drop 12 = .ok (.aload_n 0, 1) := by decide +kernel
theorem dX_drop_13 : decode cX_drop 13 = .ok (.getfield 26, 3) := by decide +kernel
theorem dX_drop_16 : decode cX_drop 16 = .ok (.invokevirtual 102, 3) := by decide +kernel
theorem dX_drop_19 : decode cX_drop 19 = .ok (.aload_n 0, 1) := by decide +kernel
theorem dX_drop_20 : decode cX_drop 20 = .ok (.iconst 0, 1) := by decide +kernel
theorem dX_drop_21 : decode cX_drop 21 = .ok (.putfield 39, 3) := by decide +kernel
theorem dX_drop_24 : decode cX_drop 24 = .ok (.iconst 1, 1) := by decide +kernel
theorem dX_drop_25 : decode cX_drop 25 = .ok (.ireturn, 1) := by decide +kernel
theorem dX_sound_0 : decode cX_sound 0 = .ok (.iload_n 1, 1) := by decide +kernel
theorem dX_sound_1 : decode cX_sound 1 = .ok (.ifCond .lt 36, 3) := by decide +kernel
theorem dX_sound_4 : decode cX_sound 4 = .ok (.iload_n 1, 1) := by decide +kernel
theorem dX_sound_5 : decode cX_sound 5 = .ok (.aload_n 0, 1) := by decide +kernel
theorem dX_sound_6 : decode cX_sound 6 = .ok (.getfield 26, 3) := by decide +kernel
theorem dX_sound_9 : decode cX_sound 9 = .ok (.invokevirtual 96, 3) := by decide +kernel
theorem dX_sound_12 : decode cX_sound 12 = .ok (.if_icmp .ge 25, 3) := by decide +kernel
theorem dX_sound_15 : decode cX_sound 15 = .ok (.iload_n 2, 1) := by decide +kernel
theorem dX_sound_16 : decode cX_sound 16 = .ok (.invokestatic 105, 3) := by decide +kernel
theorem dX_sound_19 : decode cX_sound 19 = .ok (.ifCond .eq 18, 3) := by decide +kernel
theorem dX_sound_22 : decode cX_sound 22 = .ok (.iload_n 3, 1) := by decide +kernel
theorem dX_sound_23 : decode cX_sound 23 = .ok (.invokestatic 90, 3) := by decide +kernel
theorem dX_sound_26 : decode cX_sound 26 = .ok (.ifCond .eq 11, 3) := by decide +kernel
theorem dX_sound_29 : decode cX_sound 29 = .ok (.iload 4, 2) := by decide +kernel
theorem dX_sound_31 : decode cX_sound 31 = .ok (.invokestatic 70, 3) := by decide +kernel
theorem dX_sound_34 : decode cX_sound 34 = .ok (.ifCond .ne 5, 3) := by decide +kernel
theorem dX_sound_37 : decode cX_sound 37 = .ok (.iconst 0, 1) := by decide +kernel
theorem dX_sound_38 : decode cX_sound 38 = .ok (.ireturn, 1) := by decide +kernel
theorem dX_sound_39 : decode cX_sound 39 = .ok (.aload_n 0, 1) := by decide +kernel
theorem dX_sound_40 : decode cX_sound 40 = .ok (.getfield 26, 3) := by decide +kernel
theorem dX_sound_43 : decode cX_sound 43 = .ok (.iload_n 1, 1) := by decide +kernel
theorem dX_sound_44 : decode cX_sound 44 = .ok (.iload_n 2, 1) := by decide +kernel
theorem dX_sound_45 : decode cX_sound 45 = .ok (.iload_n 3, 1) := by decide +kernel
theorem dX_sound_46 : decode cX_sound 46 = .ok (.iload 4, 2) := by decide +kernel
theorem dX_sound_48 : decode cX_sound 48 = .ok (.invokevirtual 108, 3) := by decide +kernel
theorem dX_sound_51 : decode cX_sound 51 = .ok (.aload_n 0, 1) := by decide +kernel
theorem dX_sound_52 : decode cX_sound 52 = .ok (.iconst 0, 1) := by decide +kernel
theorem dX_sound_53 : decode cX_sound 53 = .ok (.putfield 39, 3) := by decide +kernel
theorem dX_sound_56 : decode cX_sound 56 = .ok (.iconst 1, 1) := by decide +kernel
theorem dX_sound_57 : decode cX_sound 57 = .ok (.ireturn, 1) := by decide +kernel
theorem dX_frames_0 : decode cX_frames 0 = .ok (.aload_n 0, 1) := by decide +kernel
theorem dX_frames_1 : decode cX_frames 1 = .ok (.getfield 26, 3) := by decide +kernel
theorem dX_frames_4 : decode cX_frames 4 = .ok (.invokevirtual 96, 3) := by decide +kernel
theorem dX_frames_7 : decode cX_frames 7 = .ok (.ireturn, 1) := by decide +kernel
theorem dX_nodes_0 : decode cX_nodes 0 = .ok (.aload_n 0, 1) := by decide +kernel
theorem dX_nodes_1 : decode cX_nodes 1 = .ok (.getfield 12, 3) := by decide +kernel
theorem dX_nodes_4 : decode cX_nodes 4 = .ok (.invokevirtual 63, 3) := by decide +kernel
theorem dX_nodes_7 : decode cX_nodes 7 = .ok (.ireturn, 1) := by decide +kernel
theorem dX_total_0 : decode cX_total 0 = .ok (.aload_n 0, 1) := by decide +kernel
theorem dX_total_1 : decode cX_total 1 = .ok (.invokevirtual 111, 3) := by decide +kernel
theorem dX_total_4 : decode cX_total 4 = .ok (.invokevirtual 115, 3) := by decide +kernel
theorem dX_total_7 : decode cX_total 7 = .ok (.invokestatic 119, 3) := by decide +kernel
theorem dX_total_10 : decode cX_total 10 = .ok (.ireturn, 1) := by decide +kernel
theorem dX_length_0 : decode cX_length 0 = .ok (.aload_n 0, 1) := by decide +kernel
theorem dX_length_1 : decode cX_length 1 = .ok (.invokevirtual 111, 3) := by decide +kernel
theorem dX_length_4 : decode cX_length 4 = .ok (.invokevirtual 115, 3) := by decide +kernel
theorem dX_length_7 : decode cX_length 7 = .ok (.invokestatic 125, 3) := by decide +kernel
theorem dX_length_10 : decode cX_length 10 = .ok (.ireturn, 1) := by decide +kernel
theorem dX_wordAt_0 : decode cX_wordAt 0 = .ok (.aload_n 0, 1) := by decide +kernel
theorem dX_wordAt_1 : decode cX_wordAt 1 = .ok (.invokevirtual 111, 3) := by decide +kernel
theorem dX_wordAt_4 : decode cX_wordAt 4 = .ok (.invokevirtual 115, 3) := by decide +kernel
theorem dX_wordAt_7 : decode cX_wordAt 7 = .ok (.iload_n 1, 1) := by decide +kernel
theorem dX_wordAt_8 : decode cX_wordAt 8 = .ok (.invokestatic 128, 3) := by decide +kernel
theorem dX_wordAt_11 : decode cX_wordAt 11 = .ok (.ireturn, 1) := by decide +kernel
theorem dX_live_0 : decode cX_live 0 = .ok (.aload_n 0, 1) := by decide +kernel
theorem dX_live_1 : decode cX_live 1 = .ok (.iload_n 1, 1) := by decide +kernel
theorem dX_live_2 : decode cX_live 2 = .ok (.invokevirtual 132, 3) := by decide +kernel
theorem dX_live_5 : decode cX_live 5 = .ok (.ifCond .eq 14, 3) := by decide +kernel
theorem dX_live_8 : decode cX_live 8 = .ok (.aload_n 0, 1) := by decide +kernel
theorem dX_live_9 : decode cX_live 9 = .ok (.invokevirtual 111, 3) := by decide +kernel
theorem dX_live_12 : decode cX_live 12 = .ok (.iload_n 1, 1) := by decide +kernel
theorem dX_live_13 : decode cX_live 13 = .ok (.invokevirtual 135, 3) := by decide +kernel
theorem dX_live_16 : decode cX_live 16 = .ok (.goto 4, 3) := by decide +kernel
theorem dX_live_19 : decode cX_live 19 = .ok (.iconst 0, 1) := by decide +kernel
theorem dX_live_20 : decode cX_live 20 = .ok (.ireturn, 1) := by decide +kernel
theorem dX_best_0 : decode cX_best 0 = .ok (.aload_n 0, 1) := by decide +kernel
theorem dX_best_1 : decode cX_best 1 = .ok (.iload_n 1, 1) := by decide +kernel
theorem dX_best_2 : decode cX_best 2 = .ok (.invokevirtual 132, 3) := by decide +kernel
theorem dX_best_5 : decode cX_best 5 = .ok (.ifCond .eq 17, 3) := by decide +kernel
theorem dX_best_8 : decode cX_best 8 = .ok (.aload_n 0, 1) := by decide +kernel
theorem dX_best_9 : decode cX_best 9 = .ok (.invokevirtual 111, 3) := by decide +kernel
theorem dX_best_12 : decode cX_best 12 = .ok (.iload_n 1, 1) := by decide +kernel
theorem dX_best_13 : decode cX_best 13 = .ok (.invokevirtual 139, 3) := by decide +kernel
theorem dX_best_16 : decode cX_best 16 = .ok (.invokestatic 119, 3) := by decide +kernel
theorem dX_best_19 : decode cX_best 19 = .ok (.goto 4, 3) := by decide +kernel
theorem dX_best_22 : decode cX_best 22 = .ok (.iconst (-1), 1) := by decide +kernel
theorem dX_best_23 : decode cX_best 23 = .ok (.ireturn, 1) := by decide +kernel
theorem dX_searchOnce_0 : decode cX_searchOnce 0 = .ok (.aload_n 0, 1) := by decide +kernel
theorem dX_searchOnce_1 : decode cX_searchOnce 1 = .ok (.getfield 39, 3) := by decide +kernel
theorem dX_searchOnce_4 : decode cX_searchOnce 4 = .ok (.ifCond .ne 15, 3) := by decide +kernel
theorem dX_searchOnce_7 : decode cX_searchOnce 7 = .ok (.aload_n 0, 1) := by decide +kernel
theorem dX_searchOnce_8 : decode cX_searchOnce 8 = .ok (.getfield 35, 3) := by decide +kernel
theorem dX_searchOnce_11 : decode cX_searchOnce 11 = .ok (.invokevirtual 143, 3) := by decide +kernel
theorem dX_searchOnce_14 : decode cX_searchOnce 14 = .ok (.aload_n 0, 1) := by decide +kernel
theorem dX_searchOnce_15 : decode cX_searchOnce 15 = .ok (.iconst 1, 1) := by decide +kernel
theorem dX_searchOnce_16 : decode cX_searchOnce 16 = .ok (.putfield 39, 3) := by decide +kernel
theorem dX_searchOnce_19 : decode cX_searchOnce 19 = .ok (.aload_n 0, 1) := by decide +kernel
theorem dX_searchOnce_20 : decode cX_searchOnce 20 = .ok (.getfield 35, 3) := by decide +kernel
theorem dX_searchOnce_23 : decode cX_searchOnce 23 = .ok (.areturn, 1) := by decide +kernel
theorem dX_isFrameCount_0 : decode cX_isFrameCount 0 = .ok (.iload_n 1, 1) := by decide +kernel
theorem dX_isFrameCount_1 : decode cX_isFrameCount 1 = .ok (.iconst 1, 1) := by decide +kernel
theorem dX_isFrameCount_2 : decode cX_isFrameCount 2 = .ok (.if_icmp .lt 18, 3) := by decide +kernel
theorem dX_isFrameCount_5 : decode cX_isFrameCount 5 = .ok (.iload_n 1, 1) := by decide +kernel
theorem dX_isFrameCount_6 : decode cX_isFrameCount 6 = .ok (.aload_n 0, 1) := by decide +kernel
theorem dX_isFrameCount_7 : decode cX_isFrameCount 7 = .ok (.getfield 26, 3) := by decide +kernel
theorem dX_isFrameCount_10 : decode cX_isFrameCount 10 = .ok (.invokevirtual 96, 3) := by decide +kernel
theorem dX_isFrameCount_13 : decode cX_isFrameCount 13 = .ok (.if_icmp .gt 7, 3) := by decide +kernel
theorem dX_isFrameCount_16 : decode cX_isFrameCount 16 = .ok (.iconst 1, 1) := by decide +kernel
theorem dX_isFrameCount_17 : decode cX_isFrameCount 17 = .ok (.goto 4, 3) := by decide +kernel
theorem dX_isFrameCount_20 : decode cX_isFrameCount 20 = .ok (.iconst 0, 1) := by decide +kernel
theorem dX_isFrameCount_21 : decode cX_isFrameCount 21 = .ok (.ireturn, 1) := by decide +kernel
theorem dX_isWord_0 : decode cX_isWord 0 = .ok (.iload_n 0, 1) := by decide +kernel
theorem dX_isWord_1 : decode cX_isWord 1 = .ok (.ifCond .lt 12, 3) := by decide +kernel
theorem dX_isWord_4 : decode cX_isWord 4 = .ok (.iload_n 0, 1) := by decide +kernel
theorem dX_isWord_5 : decode cX_isWord 5 = .ok (.iconst 4, 1) := by decide +kernel
theorem dX_isWord_6 : decode cX_isWord 6 = .ok (.if_icmp .ge 7, 3) := by decide +kernel
theorem dX_isWord_9 : decode cX_isWord 9 = .ok (.iconst 1, 1) := by decide +kernel
theorem dX_isWord_10 : decode cX_isWord 10 = .ok (.goto 4, 3) := by decide +kernel
theorem dX_isWord_13 : decode cX_isWord 13 = .ok (.iconst 0, 1) := by decide +kernel
theorem dX_isWord_14 : decode cX_isWord 14 = .ok (.ireturn, 1) := by decide +kernel
theorem dX_isWordOrEdge_0 : decode cX_isWordOrEdge 0 = .ok (.iload_n 0, 1) := by decide +kernel
theorem dX_isWordOrEdge_1 : decode cX_isWordOrEdge 1 = .ok (.invokestatic 43, 3) := by decide +kernel
theorem dX_isWordOrEdge_4 : decode cX_isWordOrEdge 4 = .ok (.ifCond .ne 8, 3) := by decide +kernel
theorem dX_isWordOrEdge_7 : decode cX_isWordOrEdge 7 = .ok (.iload_n 0, 1) := by decide +kernel
theorem dX_isWordOrEdge_8 : decode cX_isWordOrEdge 8 = .ok (.iconst 4, 1) := by decide +kernel
theorem dX_isWordOrEdge_9 : decode cX_isWordOrEdge 9 = .ok (.if_icmp .ne 7, 3) := by decide +kernel
theorem dX_isWordOrEdge_12 : decode cX_isWordOrEdge 12 = .ok (.iconst 1, 1) := by decide +kernel
theorem dX_isWordOrEdge_13 : decode cX_isWordOrEdge 13 = .ok (.goto 4, 3) := by decide +kernel
theorem dX_isWordOrEdge_16 : decode cX_isWordOrEdge 16 = .ok (.iconst 0, 1) := by decide +kernel
theorem dX_isWordOrEdge_17 : decode cX_isWordOrEdge 17 = .ok (.ireturn, 1) := by decide +kernel
theorem dX_isPhone_0 : decode cX_isPhone 0 = .ok (.iload_n 0, 1) := by decide +kernel
theorem dX_isPhone_1 : decode cX_isPhone 1 = .ok (.ifCond .lt 12, 3) := by decide +kernel
theorem dX_isPhone_4 : decode cX_isPhone 4 = .ok (.iload_n 0, 1) := by decide +kernel
theorem dX_isPhone_5 : decode cX_isPhone 5 = .ok (.iconst 4, 1) := by decide +kernel
theorem dX_isPhone_6 : decode cX_isPhone 6 = .ok (.if_icmp .ge 7, 3) := by decide +kernel
theorem dX_isPhone_9 : decode cX_isPhone 9 = .ok (.iconst 1, 1) := by decide +kernel
theorem dX_isPhone_10 : decode cX_isPhone 10 = .ok (.goto 4, 3) := by decide +kernel
theorem dX_isPhone_13 : decode cX_isPhone 13 = .ok (.iconst 0, 1) := by decide +kernel
theorem dX_isPhone_14 : decode cX_isPhone 14 = .ok (.ireturn, 1) := by decide +kernel
theorem dX_isState_0 : decode cX_isState 0 = .ok (.iload_n 0, 1) := by decide +kernel
theorem dX_isState_1 : decode cX_isState 1 = .ok (.ifCond .lt 12, 3) := by decide +kernel
theorem dX_isState_4 : decode cX_isState 4 = .ok (.iload_n 0, 1) := by decide +kernel
theorem dX_isState_5 : decode cX_isState 5 = .ok (.iconst 3, 1) := by decide +kernel
theorem dX_isState_6 : decode cX_isState 6 = .ok (.if_icmp .ge 7, 3) := by decide +kernel
theorem dX_isState_9 : decode cX_isState 9 = .ok (.iconst 1, 1) := by decide +kernel
theorem dX_isState_10 : decode cX_isState 10 = .ok (.goto 4, 3) := by decide +kernel
theorem dX_isState_13 : decode cX_isState 13 = .ok (.iconst 0, 1) := by decide +kernel
theorem dX_isState_14 : decode cX_isState 14 = .ok (.ireturn, 1) := by decide +kernel
theorem dX_isCost_0 : decode cX_isCost 0 = .ok (.iload_n 0, 1) := by decide +kernel
theorem dX_isCost_1 : decode cX_isCost 1 = .ok (.ifCond .lt 14, 3) := by decide +kernel
theorem dX_isCost_4 : decode cX_isCost 4 = .ok (.iload_n 0, 1) := by decide +kernel
theorem dX_isCost_5 : decode cX_isCost 5 = .ok (.sipush 9999, 3) := by decide +kernel
theorem dX_isCost_8 : decode cX_isCost 8 = .ok (.if_icmp .gt 7, 3) := by decide +kernel
theorem dX_isCost_11 : decode cX_isCost 11 = .ok (.iconst 1, 1) := by decide +kernel
theorem dX_isCost_12 : decode cX_isCost 12 = .ok (.goto 4, 3) := by decide +kernel
theorem dX_isCost_15 : decode cX_isCost 15 = .ok (.iconst 0, 1) := by decide +kernel
theorem dX_isCost_16 : decode cX_isCost 16 = .ok (.ireturn, 1) := by decide +kernel
theorem dX_isPronunciation_0 : decode cX_isPronunciation 0 = .ok (.iload_n 0, 1) := by decide +kernel
theorem dX_isPronunciation_1 : decode cX_isPronunciation 1 = .ok (.invokestatic 105, 3) := by decide +kernel
theorem dX_isPronunciation_4 : decode cX_isPronunciation 4 = .ok (.ifCond .ne 5, 3) := by decide +kernel
theorem dX_isPronunciation_7 : decode cX_isPronunciation 7 = .ok (.iconst 0, 1) := by decide +kernel
theorem dX_isPronunciation_8 : decode cX_isPronunciation 8 = .ok (.ireturn, 1) := by decide +kernel
theorem dX_isPronunciation_9 : decode cX_isPronunciation 9 = .ok (.iload_n 1, 1) := by decide +kernel
theorem dX_isPronunciation_10 : decode cX_isPronunciation 10 = .ok (.iconst (-1), 1) := by decide +kernel
theorem dX_isPronunciation_11 : decode cX_isPronunciation 11 = .ok (.if_icmp .ne 16, 3) := by decide +kernel
theorem dX_isPronunciation_14 : decode cX_isPronunciation 14 = .ok (.iload_n 2, 1) := by decide +kernel
theorem dX_isPronunciation_15 : decode cX_isPronunciation 15 = .ok (.iconst (-1), 1) := by decide +kernel
theorem dX_isPronunciation_16 : decode cX_isPronunciation 16 = .ok (.if_icmp .ne 7, 3) := by decide +kernel
theorem dX_isPronunciation_19 : decode cX_isPronunciation 19 = .ok (.iconst 1, 1) := by decide +kernel
theorem dX_isPronunciation_20 : decode cX_isPronunciation 20 = .ok (.goto 31, 3) := by decide +kernel
theorem dX_isPronunciation_23 : decode cX_isPronunciation 23 = .ok (.iconst 0, 1) := by decide +kernel
theorem dX_isPronunciation_24 : decode cX_isPronunciation 24 = .ok (.goto 27, 3) := by decide +kernel
theorem dX_isPronunciation_27 : decode cX_isPronunciation 27 = .ok (.iload_n 1, 1) := by decide +kernel
theorem dX_isPronunciation_28 : decode cX_isPronunciation 28 = .ok (.invokestatic 105, 3) := by decide +kernel
theorem dX_isPronunciation_31 : decode cX_isPronunciation 31 = .ok (.ifCond .eq 19, 3) := by decide +kernel
theorem dX_isPronunciation_34 : decode cX_isPronunciation 34 = .ok (.iload_n 2, 1) := by decide +kernel
theorem dX_isPronunciation_35 : decode cX_isPronunciation 35 = .ok (.iconst (-1), 1) := by decide +kernel
theorem dX_isPronunciation_36 : decode cX_isPronunciation 36 = .ok (.if_icmp .eq 10, 3) := by decide +kernel
theorem dX_isPronunciation_39 : decode cX_isPronunciation 39 = .ok (.iload_n 2, 1) := by decide +kernel
theorem dX_isPronunciation_40 : decode cX_isPronunciation 40 = .ok (.invokestatic 105, 3) := by decide +kernel
theorem dX_isPronunciation_43 : decode cX_isPronunciation 43 = .ok (.ifCond .eq 7, 3) := by decide +kernel
theorem dX_isPronunciation_46 : decode cX_isPronunciation 46 = .ok (.iconst 1, 1) := by decide +kernel
theorem dX_isPronunciation_47 : decode cX_isPronunciation 47 = .ok (.goto 4, 3) := by decide +kernel
theorem dX_isPronunciation_50 : decode cX_isPronunciation 50 = .ok (.iconst 0, 1) := by decide +kernel
theorem dX_isPronunciation_51 : decode cX_isPronunciation 51 = .ok (.ireturn, 1) := by decide +kernel
theorem dG_init_0 : decode cG_init 0 = .ok (.aload_n 0, 1) := by decide +kernel
theorem dG_init_1 : decode cG_init 1 = .ok (.invokespecial 3, 3) := by decide +kernel
theorem dG_init_4 : decode cG_init 4 = .ok (.aload_n 0, 1) := by decide +kernel
theorem dG_init_5 : decode cG_init 5 = .ok (.sipush 216, 3) := by decide +kernel
theorem dG_init_8 : decode cG_init 8 = .ok (.newarray .int, 2) := by decide +kernel
theorem dG_init_10 : decode cG_init 10 = .ok (.putfield 11, 3) := by decide +kernel
theorem dG_init_13 : decode cG_init 13 = .ok (.aload_n 0, 1) := by decide +kernel
theorem dG_init_14 : decode cG_init 14 = .ok (.sipush 216, 3) := by decide +kernel
theorem dG_init_17 : decode cG_init 17 = .ok (.newarray .int, 2) := by decide +kernel
theorem dG_init_19 : decode cG_init 19 = .ok (.putfield 15, 3) := by decide +kernel
theorem dG_init_22 : decode cG_init 22 = .ok (.aload_n 0, 1) := by decide +kernel
theorem dG_init_23 : decode cG_init 23 = .ok (.getfield 11, 3) := by decide +kernel
theorem dG_init_26 : decode cG_init 26 = .ok (.iconst (-1), 1) := by decide +kernel
theorem dG_init_27 : decode cG_init 27 = .ok (.invokestatic 18, 3) := by decide +kernel
theorem dG_init_30 : decode cG_init 30 = .ok (.return_, 1) := by decide +kernel
theorem dG_isGram_0 : decode cG_isGram 0 = .ok (.iload_n 2, 1) := by decide +kernel
theorem dG_isGram_1 : decode cG_isGram 1 = .ok (.invokestatic 24, 3) := by decide +kernel
theorem dG_isGram_4 : decode cG_isGram 4 = .ok (.ifCond .ne 5, 3) := by decide +kernel
theorem dG_isGram_7 : decode cG_isGram 7 = .ok (.iconst 0, 1) := by decide +kernel
theorem dG_isGram_8 : decode cG_isGram 8 = .ok (.ireturn, 1) := by decide +kernel
theorem dG_isGram_9 : decode cG_isGram 9 = .ok (.iload_n 0, 1) := by decide +kernel
theorem dG_isGram_10 : decode cG_isGram 10 = .ok (.iconst (-1), 1) := by decide +kernel
theorem dG_isGram_11 : decode cG_isGram 11 = .ok (.if_icmp .ne 21, 3) := by decide +kernel
theorem dG_isGram_14 : decode cG_isGram 14 = .ok (.iload_n 1, 1) := by decide +kernel
theorem dG_isGram_15 : decode cG_isGram 15 = .ok (.iconst (-1), 1) := by decide +kernel
theorem dG_isGram_16 : decode cG_isGram 16 = .ok (.if_icmp .eq 10, 3) := by decide +kernel
theorem dG_isGram_19 : decode cG_isGram 19 = .ok (.iload_n 1, 1) := by decide +kernel
theorem dG_isGram_20 : decode cG_isGram 20 = .ok (.invokestatic 24, 3) := by decide +kernel
theorem dG_isGram_23 : decode cG_isGram 23 = .ok (.ifCond .eq 7, 3) := by decide +kernel
theorem dG_isGram_26 : decode cG_isGram 26 = .ok (.iconst 1, 1) := by decide +kernel
theorem dG_isGram_27 : decode cG_isGram 27 = .ok (.goto 4, 3) := by decide +kernel
theorem dG_isGram_30 : decode cG_isGram 30 = .ok (.iconst 0, 1) := by decide +kernel
theorem dG_isGram_31 : decode cG_isGram 31 = .ok (.ireturn, 1) := by decide +kernel
theorem dG_isGram_32 : decode cG_isGram 32 = .ok (.iload_n 0, 1) := by decide +kernel
theorem dG_isGram_33 : decode cG_isGram 33 = .ok (.invokestatic 24, 3) := by decide +kernel
theorem dG_isGram_36 : decode cG_isGram 36 = .ok (.ifCond .eq 14, 3) := by decide +kernel
theorem dG_isGram_39 : decode cG_isGram 39 = .ok (.iload_n 1, 1) := by decide +kernel
theorem dG_isGram_40 : decode cG_isGram 40 = .ok (.invokestatic 28, 3) := by decide +kernel
theorem dG_isGram_43 : decode cG_isGram 43 = .ok (.ifCond .eq 7, 3) := by decide +kernel
theorem dG_isGram_46 : decode cG_isGram 46 = .ok (.iconst 1, 1) := by decide +kernel
theorem dG_isGram_47 : decode cG_isGram 47 = .ok (.goto 4, 3) := by decide +kernel
theorem dG_isGram_50 : decode cG_isGram 50 = .ok (.iconst 0, 1) := by decide +kernel
theorem dG_isGram_51 : decode cG_isGram 51 = .ok (.ireturn, 1) := by decide +kernel
theorem dG_has_0 : decode cG_has 0 = .ok (.aload_n 0, 1) := by decide +kernel
theorem dG_has_1 : decode cG_has 1 = .ok (.getfield 11, 3) := by decide +kernel
theorem dG_has_4 : decode cG_has 4 = .ok (.iload_n 1, 1) := by decide +kernel
theorem dG_has_5 : decode cG_has 5 = .ok (.iload_n 2, 1) := by decide +kernel
theorem dG_has_6 : decode cG_has 6 = .ok (.iload_n 3, 1) := by decide +kernel
theorem dG_has_7 : decode cG_has 7 = .ok (.invokestatic 31, 3) := by decide +kernel
theorem dG_has_10 : decode cG_has 10 = .ok (.iaload, 1) := by decide +kernel
theorem dG_has_11 : decode cG_has 11 = .ok (.iconst (-1), 1) := by decide +kernel
theorem dG_has_12 : decode cG_has 12 = .ok (.if_icmp .eq 7, 3) := by decide +kernel
theorem dG_has_15 : decode cG_has 15 = .ok (.iconst 1, 1) := by decide +kernel
theorem dG_has_16 : decode cG_has 16 = .ok (.goto 4, 3) := by decide +kernel
theorem dG_has_19 : decode cG_has 19 = .ok (.iconst 0, 1) := by decide +kernel
theorem dG_has_20 : decode cG_has 20 = .ok (.ireturn, 1) := by decide +kernel
theorem dG_put_0 : decode cG_put 0 = .ok (.aload_n 0, 1) := by decide +kernel
theorem dG_put_1 : decode cG_put 1 = .ok (.getfield 11, 3) := by decide +kernel
theorem dG_put_4 : decode cG_put 4 = .ok (.iload_n 1, 1) := by decide +kernel
theorem dG_put_5 : decode cG_put 5 = .ok (.iload_n 2, 1) := by decide +kernel
theorem dG_put_6 : decode cG_put 6 = .ok (.iload_n 3, 1) := by decide +kernel
theorem dG_put_7 : decode cG_put 7 = .ok (.invokestatic 31, 3) := by decide +kernel
theorem dG_put_10 : decode cG_put 10 = .ok (.iload 4, 2) := by decide +kernel
theorem dG_put_12 : decode cG_put 12 = .ok (.iastore, 1) := by decide +kernel
theorem dG_put_13 : decode cG_put 13 = .ok (.aload_n 0, 1) := by decide +kernel
theorem dG_put_14 : decode cG_put 14 = .ok (.getfield 15, 3) := by decide +kernel
theorem dG_put_17 : decode cG_put 17 = .ok (.iload_n 1, 1) := by decide +kernel
theorem dG_put_18 : decode cG_put 18 = .ok (.iload_n 2, 1) := by decide +kernel
theorem dG_put_19 : decode cG_put 19 = .ok (.iload_n 3, 1) := by decide +kernel
theorem dG_put_20 : decode cG_put 20 = .ok (.invokestatic 31, 3) := by decide +kernel
theorem dG_put_23 : decode cG_put 23 = .ok (.iload 5, 2) := by decide +kernel
theorem dG_put_25 : decode cG_put 25 = .ok (.iastore, 1) := by decide +kernel
theorem dG_put_26 : decode cG_put 26 = .ok (.return_, 1) := by decide +kernel
theorem dG_remove_0 : decode cG_remove 0 = .ok (.aload_n 0, 1) := by decide +kernel
theorem dG_remove_1 : decode cG_remove 1 = .ok (.getfield 11, 3) := by decide +kernel
theorem dG_remove_4 : decode cG_remove 4 = .ok (.iload_n 1, 1) := by decide +kernel
theorem dG_remove_5 : decode cG_remove 5 = .ok (.iload_n 2, 1) := by decide +kernel
theorem dG_remove_6 : decode cG_remove 6 = .ok (.iload_n 3, 1) := by decide +kernel
theorem dG_remove_7 : decode cG_remove 7 = .ok (.invokestatic 31, 3) := by decide +kernel
theorem dG_remove_10 : decode cG_remove 10 = .ok (.iconst (-1), 1) := by decide +kernel
theorem dG_remove_11 : decode cG_remove 11 = .ok (.iastore, 1) := by decide +kernel
theorem dG_remove_12 : decode cG_remove 12 = .ok (.aload_n 0, 1) := by decide +kernel
theorem dG_remove_13 : decode cG_remove 13 = .ok (.getfield 15, 3) := by decide +kernel
theorem dG_remove_16 : decode cG_remove 16 = .ok (.iload_n 1, 1) := by decide +kernel
theorem dG_remove_17 : decode cG_remove 17 = .ok (.iload_n 2, 1) := by decide +kernel
theorem dG_remove_18 : decode cG_remove 18 = .ok (.iload_n 3, 1) := by decide +kernel
theorem dG_remove_19 : decode cG_remove 19 = .ok (.invokestatic 31, 3) := by decide +kernel
theorem dG_remove_22 : decode cG_remove 22 = .ok (.iconst 0, 1) := by decide +kernel
theorem dG_remove_23 : decode cG_remove 23 = .ok (.iastore, 1) := by decide +kernel
theorem dG_remove_24 : decode cG_remove 24 = .ok (.return_, 1) := by decide +kernel
theorem dG_costAfter_0 : decode cG_costAfter 0 = .ok (.iload_n 2, 1) := by decide +kernel
theorem dG_costAfter_1 : decode cG_costAfter 1 = .ok (.iconst 4, 1) := by decide +kernel
theorem dG_costAfter_2 : decode cG_costAfter 2 = .ok (.if_icmp .ne 10, 3) := by decide +kernel
theorem dG_costAfter_5 : decode cG_costAfter 5 = .ok (.aload_n 0, 1) := by decide +kernel
theorem dG_costAfter_6 : decode cG_costAfter 6 = .ok (.iload_n 2, 1) := by decide +kernel
theorem dG_costAfter_7 : decode cG_costAfter 7 = .ok (.iload_n 3, 1) := by decide +kernel
theorem dG_costAfter_8 : decode cG_costAfter 8 = .ok (.invokevirtual 35, 3) := by decide +kernel
theorem dG_costAfter_11 : decode cG_costAfter 11 = .ok (.ireturn, 1) := by decide +kernel
theorem dG_costAfter_12 : decode cG_costAfter 12 = .ok (.aload_n 0, 1) := by decide +kernel
theorem dG_costAfter_13 : decode cG_costAfter 13 = .ok (.getfield 11, 3) := by decide +kernel
theorem dG_costAfter_16 : decode cG_costAfter 16 = .ok (.iload_n 1, 1) := by decide +kernel
theorem dG_costAfter_17 : decode cG_costAfter 17 = .ok (.iload_n 2, 1) := by decide +kernel
theorem dG_costAfter_18 : decode cG_costAfter 18 = .ok (.iload_n 3, 1) := by decide +kernel
theorem dG_costAfter_19 : decode cG_costAfter 19 = .ok (.invokestatic 31, 3) := by decide +kernel
theorem dG_costAfter_22 : decode cG_costAfter 22 = .ok (.iaload, 1) := by decide +kernel
theorem dG_costAfter_23 : decode cG_costAfter 23 = .ok (.istore 4, 2) := by decide +kernel
theorem dG_costAfter_25 : decode cG_costAfter 25 = .ok (.iload 4, 2) := by decide +kernel
theorem dG_costAfter_27 : decode cG_costAfter 27 = .ok (.iconst (-1), 1) := by decide +kernel
theorem dG_costAfter_28 : decode cG_costAfter 28 = .ok (.if_icmp .eq 6, 3) := by decide +kernel
theorem dG_costAfter_31 : decode cG_costAfter 31 = .ok (.iload 4, 2) := by decide +kernel
theorem dG_costAfter_33 : decode cG_costAfter 33 = .ok (.ireturn, 1) := by decide +kernel
theorem dG_costAfter_34 : decode cG_costAfter 34 = .ok (.aload_n 0, 1) := by decide +kernel
theorem dG_costAfter_35 : decode cG_costAfter 35 = .ok (.iload_n 2, 1) := by decide +kernel
theorem dG_costAfter_36 : decode cG_costAfter 36 = .ok (.iload_n 3, 1) := by decide +kernel
theorem dG_costAfter_37 : decode cG_costAfter 37 = .ok (.invokevirtual 35, 3) := by decide +kernel
theorem dG_costAfter_40 : decode cG_costAfter 40 = .ok (.istore 5, 2) := by decide +kernel
theorem dG_costAfter_42 : decode cG_costAfter 42 = .ok (.iload 5, 2) := by decide +kernel
theorem dG_costAfter_44 : decode cG_costAfter 44 = .ok (.iconst (-1), 1) := by decide +kernel
theorem dG_costAfter_45 : decode cG_costAfter 45 = .ok (.if_icmp .ne 7, 3) := by decide +kernel
theorem dG_costAfter_48 : decode cG_costAfter 48 = .ok (.iconst (-1), 1) := by decide +kernel
theorem dG_costAfter_49 : decode cG_costAfter 49 = .ok (.goto 17, 3) := by decide +kernel
theorem dG_costAfter_52 : decode cG_costAfter 52 = .ok (.aload_n 0, 1) := by decide +kernel
theorem dG_costAfter_53 : decode cG_costAfter 53 = .ok (.getfield 15, 3) := by decide +kernel
theorem dG_costAfter_56 : decode cG_costAfter 56 = .ok (.iconst (-1), 1) := by decide +kernel
theorem dG_costAfter_57 : decode cG_costAfter 57 = .ok (.iload_n 1, 1) := by decide +kernel
theorem dG_costAfter_58 : decode cG_costAfter 58 = .ok (.iload_n 2, 1) := by decide +kernel
theorem dG_costAfter_59 : decode cG_costAfter 59 = .ok (.invokestatic 31, 3) := by decide +kernel
theorem dG_costAfter_62 : decode cG_costAfter 62 = .ok (.iaload, 1) := by decide +kernel
theorem dG_costAfter_63 : decode cG_costAfter 63 = .ok (.iload 5, 2) := by decide +kernel
theorem dG_costAfter_65 : decode cG_costAfter 65 = .ok (.iadd, 1) := by decide +kernel
theorem dG_costAfter_66 : decode cG_costAfter 66 = .ok (.ireturn, 1) := by decide +kernel
theorem dG_costOfTwo_0 : decode cG_costOfTwo 0 = .ok (.aload_n 0, 1) := by decide +kernel
theorem dG_costOfTwo_1 : decode cG_costOfTwo 1 = .ok (.getfield 11, 3) := by decide +kernel
theorem dG_costOfTwo_4 : decode cG_costOfTwo 4 = .ok (.iconst (-1), 1) := by decide +kernel
theorem dG_costOfTwo_5 : decode cG_costOfTwo 5 = .ok (.iload_n 1, 1) := by decide +kernel
theorem dG_costOfTwo_6 : decode cG_costOfTwo 6 = .ok (.iload_n 2, 1) := by decide +kernel
theorem dG_costOfTwo_7 : decode cG_costOfTwo 7 = .ok (.invokestatic 31, 3) := by decide +kernel
theorem dG_costOfTwo_10 : decode cG_costOfTwo 10 = .ok (.iaload, 1) := by decide +kernel
theorem dG_costOfTwo_11 : decode cG_costOfTwo 11 = .ok (.istore_n 3, 1) := by decide +kernel
theorem dG_costOfTwo_12 : decode cG_costOfTwo 12 = .ok (.iload_n 3, 1) := by decide +kernel
theorem dG_costOfTwo_13 : decode cG_costOfTwo 13 = .ok (.iconst (-1), 1) := by decide +kernel
theorem dG_costOfTwo_14 : decode cG_costOfTwo 14 = .ok (.if_icmp .eq 5, 3) := by decide +kernel
theorem dG_costOfTwo_17 : decode cG_costOfTwo 17 = .ok (.iload_n 3, 1) := by decide +kernel
theorem dG_costOfTwo_18 : decode cG_costOfTwo 18 = .ok (.ireturn, 1) := by decide +kernel
theorem dG_costOfTwo_19 : decode cG_costOfTwo 19 = .ok (.aload_n 0, 1) := by decide +kernel
theorem dG_costOfTwo_20 : decode cG_costOfTwo 20 = .ok (.getfield 11, 3) := by decide +kernel
theorem dG_costOfTwo_23 : decode cG_costOfTwo 23 = .ok (.iconst (-1), 1) := by decide +kernel
theorem dG_costOfTwo_24 : decode cG_costOfTwo 24 = .ok (.iconst (-1), 1) := by decide +kernel
theorem dG_costOfTwo_25 : decode cG_costOfTwo 25 = .ok (.iload_n 2, 1) := by decide +kernel
theorem dG_costOfTwo_26 : decode cG_costOfTwo 26 = .ok (.invokestatic 31, 3) := by decide +kernel
theorem dG_costOfTwo_29 : decode cG_costOfTwo 29 = .ok (.iaload, 1) := by decide +kernel
theorem dG_costOfTwo_30 : decode cG_costOfTwo 30 = .ok (.istore 4, 2) := by decide +kernel
theorem dG_costOfTwo_32 : decode cG_costOfTwo 32 = .ok (.iload 4, 2) := by decide +kernel
theorem dG_costOfTwo_34 : decode cG_costOfTwo 34 = .ok (.iconst (-1), 1) := by decide +kernel
theorem dG_costOfTwo_35 : decode cG_costOfTwo 35 = .ok (.if_icmp .ne 7, 3) := by decide +kernel
theorem dG_costOfTwo_38 : decode cG_costOfTwo 38 = .ok (.iconst (-1), 1) := by decide +kernel
theorem dG_costOfTwo_39 : decode cG_costOfTwo 39 = .ok (.goto 17, 3) := by decide +kernel
theorem dG_costOfTwo_42 : decode cG_costOfTwo 42 = .ok (.aload_n 0, 1) := by decide +kernel
theorem dG_costOfTwo_43 : decode cG_costOfTwo 43 = .ok (.getfield 15, 3) := by decide +kernel
theorem dG_costOfTwo_46 : decode cG_costOfTwo 46 = .ok (.iconst (-1), 1) := by decide +kernel
theorem dG_costOfTwo_47 : decode cG_costOfTwo 47 = .ok (.iconst (-1), 1) := by decide +kernel
theorem dG_costOfTwo_48 : decode cG_costOfTwo 48 = .ok (.iload_n 1, 1) := by decide +kernel
theorem dG_costOfTwo_49 : decode cG_costOfTwo 49 = .ok (.invokestatic 31, 3) := by decide +kernel
theorem dG_costOfTwo_52 : decode cG_costOfTwo 52 = .ok (.iaload, 1) := by decide +kernel
theorem dG_costOfTwo_53 : decode cG_costOfTwo 53 = .ok (.iload 4, 2) := by decide +kernel
theorem dG_costOfTwo_55 : decode cG_costOfTwo 55 = .ok (.iadd, 1) := by decide +kernel
theorem dG_costOfTwo_56 : decode cG_costOfTwo 56 = .ok (.ireturn, 1) := by decide +kernel
theorem dG_slot_0 : decode cG_slot 0 = .ok (.iload_n 0, 1) := by decide +kernel
theorem dG_slot_1 : decode cG_slot 1 = .ok (.iconst 1, 1) := by decide +kernel
theorem dG_slot_2 : decode cG_slot 2 = .ok (.iadd, 1) := by decide +kernel
theorem dG_slot_3 : decode cG_slot 3 = .ok (.bipush 6, 2) := by decide +kernel
theorem dG_slot_5 : decode cG_slot 5 = .ok (.imul, 1) := by decide +kernel
theorem dG_slot_6 : decode cG_slot 6 = .ok (.iload_n 1, 1) := by decide +kernel
theorem dG_slot_7 : decode cG_slot 7 = .ok (.iadd, 1) := by decide +kernel
theorem dG_slot_8 : decode cG_slot 8 = .ok (.iconst 1, 1) := by decide +kernel
theorem dG_slot_9 : decode cG_slot 9 = .ok (.iadd, 1) := by decide +kernel
theorem dG_slot_10 : decode cG_slot 10 = .ok (.bipush 6, 2) := by decide +kernel
theorem dG_slot_12 : decode cG_slot 12 = .ok (.imul, 1) := by decide +kernel
theorem dG_slot_13 : decode cG_slot 13 = .ok (.iload_n 2, 1) := by decide +kernel
theorem dG_slot_14 : decode cG_slot 14 = .ok (.iadd, 1) := by decide +kernel
theorem dG_slot_15 : decode cG_slot 15 = .ok (.iconst 1, 1) := by decide +kernel
theorem dG_slot_16 : decode cG_slot 16 = .ok (.iadd, 1) := by decide +kernel
theorem dG_slot_17 : decode cG_slot 17 = .ok (.ireturn, 1) := by decide +kernel
theorem dS_init_0 : decode cS_init 0 = .ok (.aload_n 0, 1) := by decide +kernel
theorem dS_init_1 : decode cS_init 1 = .ok (.invokespecial 3, 3) := by decide +kernel
theorem dS_init_4 : decode cS_init 4 = .ok (.aload_n 0, 1) := by decide +kernel
theorem dS_init_5 : decode cS_init 5 = .ok (.sipush 180, 3) := by decide +kernel
theorem dS_init_8 : decode cS_init 8 = .ok (.newarray .int, 2) := by decide +kernel
theorem dS_init_10 : decode cS_init 10 = .ok (.putfield 11, 3) := by decide +kernel
theorem dS_init_13 : decode cS_init 13 = .ok (.aload_n 0, 1) := by decide +kernel
theorem dS_init_14 : decode cS_init 14 = .ok (.iconst 3, 1) := by decide +kernel
theorem dS_init_15 : decode cS_init 15 = .ok (.newarray .int, 2) := by decide +kernel
theorem dS_init_17 : decode cS_init 17 = .ok (.putfield 15, 3) := by decide +kernel
theorem dS_init_20 : decode cS_init 20 = .ok (.aload_n 0, 1) := by decide +kernel
theorem dS_init_21 : decode cS_init 21 = .ok (.iconst 3, 1) := by decide +kernel
theorem dS_init_22 : decode cS_init 22 = .ok (.newarray .int, 2) := by decide +kernel
theorem dS_init_24 : decode cS_init 24 = .ok (.putfield 18, 3) := by decide +kernel
theorem dS_init_27 : decode cS_init 27 = .ok (.aload_n 0, 1) := by decide +kernel
theorem dS_init_28 : decode cS_init 28 = .ok (.iconst 0, 1) := by decide +kernel
theorem dS_init_29 : decode cS_init 29 = .ok (.putfield 21, 3) := by decide +kernel
theorem dS_init_32 : decode cS_init 32 = .ok (.return_, 1) := by decide +kernel
theorem dS_count_0 : decode cS_count 0 = .ok (.aload_n 0, 1) := by decide +kernel
theorem dS_count_1 : decode cS_count 1 = .ok (.getfield 21, 3) := by decide +kernel
theorem dS_count_4 : decode cS_count 4 = .ok (.ireturn, 1) := by decide +kernel
theorem dS_addFrame_0 : decode cS_addFrame 0 = .ok (.iconst 0, 1) := by decide +kernel
theorem dS_addFrame_1 : decode cS_addFrame 1 = .ok (.istore_n 1, 1) := by decide +kernel
theorem dS_addFrame_2 : decode cS_addFrame 2 = .ok (.iload_n 1, 1) := by decide +kernel
theorem dS_addFrame_3 : decode cS_addFrame 3 = .ok (.bipush 12, 2) := by decide +kernel
theorem dS_addFrame_5 : decode cS_addFrame 5 = .ok (.if_icmp .ge 24, 3) := by decide +kernel
theorem dS_addFrame_8 : decode cS_addFrame 8 = .ok (.aload_n 0, 1) := by decide +kernel
theorem dS_addFrame_9 : decode cS_addFrame 9 = .ok (.getfield 11, 3) := by decide +kernel
theorem dS_addFrame_12 : decode cS_addFrame 12 = .ok (.aload_n 0, 1) := by decide +kernel
theorem dS_addFrame_13 : decode cS_addFrame 13 = .ok (.getfield 21, 3) := by decide +kernel
theorem dS_addFrame_16 : decode cS_addFrame 16 = .ok (.bipush 12, 2) := by decide +kernel
theorem dS_addFrame_18 : decode cS_addFrame 18 = .ok (.imul, 1) := by decide +kernel
theorem dS_addFrame_19 : decode cS_addFrame 19 = .ok (.iload_n 1, 1) := by decide +kernel
theorem dS_addFrame_20 : decode cS_addFrame 20 = .ok (.iadd, 1) := by decide +kernel
theorem dS_addFrame_21 : decode cS_addFrame 21 = .ok (.iconst 0, 1) := by decide +kernel
theorem dS_addFrame_22 : decode cS_addFrame 22 = .ok (.iastore, 1) := by decide +kernel
theorem dS_addFrame_23 : decode cS_addFrame 23 = .ok (.iinc 1 1, 3) := by decide +kernel
theorem dS_addFrame_26 : decode cS_addFrame 26 = .ok (.goto (-24), 3) := by decide +kernel
theorem dS_addFrame_29 : decode cS_addFrame 29 = .ok (.aload_n 0, 1) := by decide +kernel
theorem dS_addFrame_30 : decode cS_addFrame 30 = .ok (.dup, 1) := by decide +kernel
theorem dS_addFrame_31 : decode cS_addFrame 31 = .ok (.getfield 21, 3) := by decide +kernel
theorem dS_addFrame_34 : decode cS_addFrame 34 = .ok (.iconst 1, 1) := by decide +kernel
theorem dS_addFrame_35 : decode cS_addFrame 35 = .ok (.iadd, 1) := by decide +kernel
theorem dS_addFrame_36 : decode cS_addFrame 36 = .ok (.putfield 21, 3) := by decide +kernel
theorem dS_addFrame_39 : decode cS_addFrame 39 = .ok (.return_, 1) := by decide +kernel
theorem dS_removeFrame_0 : decode cS_removeFrame 0 = .ok (.aload_n 0, 1) := by decide +kernel
theorem dS_removeFrame_1 : decode cS_removeFrame 1 = .ok (.dup, 1) := by decide +kernel
theorem dS_removeFrame_2 : decode cS_removeFrame 2 = .ok (.getfield 21, 3) := by decide +kernel
theorem dS_removeFrame_5 : decode cS_removeFrame 5 = .ok (.iconst 1, 1) := by decide +kernel
theorem dS_removeFrame_6 : decode cS_removeFrame 6 = .ok (.isub, 1) := by decide +kernel
theorem dS_removeFrame_7 : decode cS_removeFrame 7 = .ok (.putfield 21, 3) := by decide +kernel
theorem dS_removeFrame_10 : decode cS_removeFrame 10 = .ok (.return_, 1) := by decide +kernel
theorem dS_setCost_0 : decode cS_setCost 0 = .ok (.aload_n 0, 1) := by decide +kernel
theorem dS_setCost_1 : decode cS_setCost 1 = .ok (.getfield 11, 3) := by decide +kernel
theorem dS_setCost_4 : decode cS_setCost 4 = .ok (.iload_n 1, 1) := by decide +kernel
theorem dS_setCost_5 : decode cS_setCost 5 = .ok (.bipush 12, 2) := by decide +kernel
theorem dS_setCost_7 : decode cS_setCost 7 = .ok (.imul, 1) := by decide +kernel
theorem dS_setCost_8 : decode cS_setCost 8 = .ok (.iload_n 2, 1) := by decide +kernel
theorem dS_setCost_9 : decode cS_setCost 9 = .ok (.iconst 3, 1) := by decide +kernel
theorem dS_setCost_10 : decode cS_setCost 10 = .ok (.imul, 1) := by decide +kernel
theorem dS_setCost_11 : decode cS_setCost 11 = .ok (.iadd, 1) := by decide +kernel
theorem dS_setCost_12 : decode cS_setCost 12 = .ok (.iload_n 3, 1) := by decide +kernel
theorem dS_setCost_13 : decode cS_setCost 13 = .ok (.iadd, 1) := by decide +kernel
theorem dS_setCost_14 : decode cS_setCost 14 = .ok (.iload 4, 2) := by decide +kernel
theorem dS_setCost_16 : decode cS_setCost 16 = .ok (.iastore, 1) := by decide +kernel
theorem dS_setCost_17 : decode cS_setCost 17 = .ok (.return_, 1) := by decide +kernel
theorem dS_costOf_0 : decode cS_costOf 0 = .ok (.aload_n 0, 1) := by decide +kernel
theorem dS_costOf_1 : decode cS_costOf 1 = .ok (.getfield 11, 3) := by decide +kernel
theorem dS_costOf_4 : decode cS_costOf 4 = .ok (.iload_n 1, 1) := by decide +kernel
theorem dS_costOf_5 : decode cS_costOf 5 = .ok (.bipush 12, 2) := by decide +kernel
theorem dS_costOf_7 : decode cS_costOf 7 = .ok (.imul, 1) := by decide +kernel
theorem dS_costOf_8 : decode cS_costOf 8 = .ok (.iload_n 2, 1) := by decide +kernel
theorem dS_costOf_9 : decode cS_costOf 9 = .ok (.iconst 3, 1) := by decide +kernel
theorem dS_costOf_10 : decode cS_costOf 10 = .ok (.imul, 1) := by decide +kernel
theorem dS_costOf_11 : decode cS_costOf 11 = .ok (.iadd, 1) := by decide +kernel
theorem dS_costOf_12 : decode cS_costOf 12 = .ok (.iload_n 3, 1) := by decide +kernel
theorem dS_costOf_13 : decode cS_costOf 13 = .ok (.iadd, 1) := by decide +kernel
theorem dS_costOf_14 : decode cS_costOf 14 = .ok (.iaload, 1) := by decide +kernel
theorem dS_costOf_15 : decode cS_costOf 15 = .ok (.ireturn, 1) := by decide +kernel
theorem dS_setTopology_0 : decode cS_setTopology 0 = .ok (.aload_n 0, 1) := by decide +kernel
theorem dS_setTopology_1 : decode cS_setTopology 1 = .ok (.getfield 15, 3) := by decide +kernel
theorem dS_setTopology_4 : decode cS_setTopology 4 = .ok (.iload_n 1, 1) := by decide +kernel
theorem dS_setTopology_5 : decode cS_setTopology 5 = .ok (.iload_n 2, 1) := by decide +kernel
theorem dS_setTopology_6 : decode cS_setTopology 6 = .ok (.iastore, 1) := by decide +kernel
theorem dS_setTopology_7 : decode cS_setTopology 7 = .ok (.aload_n 0, 1) := by decide +kernel
theorem dS_setTopology_8 : decode cS_setTopology 8 = .ok (.getfield 18, 3) := by decide +kernel
theorem dS_setTopology_11 : decode cS_setTopology 11 = .ok (.iload_n 1, 1) := by decide +kernel
theorem dS_setTopology_12 : decode cS_setTopology 12 = .ok (.iload_n 3, 1) := by decide +kernel
theorem dS_setTopology_13 : decode cS_setTopology 13 = .ok (.iastore, 1) := by decide +kernel
theorem dS_setTopology_14 : decode cS_setTopology 14 = .ok (.return_, 1) := by decide +kernel
theorem dS_holdOf_0 : decode cS_holdOf 0 = .ok (.aload_n 0, 1) := by decide +kernel
theorem dS_holdOf_1 : decode cS_holdOf 1 = .ok (.getfield 15, 3) := by decide +kernel
theorem dS_holdOf_4 : decode cS_holdOf 4 = .ok (.iload_n 1, 1) := by decide +kernel
theorem dS_holdOf_5 : decode cS_holdOf 5 = .ok (.iaload, 1) := by decide +kernel
theorem dS_holdOf_6 : decode cS_holdOf 6 = .ok (.ireturn, 1) := by decide +kernel
theorem dS_leaveOf_0 : decode cS_leaveOf 0 = .ok (.aload_n 0, 1) := by decide +kernel
theorem dS_leaveOf_1 : decode cS_leaveOf 1 = .ok (.getfield 18, 3) := by decide +kernel
theorem dS_leaveOf_4 : decode cS_leaveOf 4 = .ok (.iload_n 1, 1) := by decide +kernel
theorem dS_leaveOf_5 : decode cS_leaveOf 5 = .ok (.iaload, 1) := by decide +kernel
theorem dS_leaveOf_6 : decode cS_leaveOf 6 = .ok (.ireturn, 1) := by decide +kernel
theorem dK_plusCost_0 : decode cK_plusCost 0 = .ok (.lload_n 0, 1) := by decide +kernel
theorem dK_plusCost_1 : decode cK_plusCost 1 = .ok (.ldc2_w 11, 3) := by decide +kernel
theorem dK_plusCost_4 : decode cK_plusCost 4 = .ok (.lcmp, 1) := by decide +kernel
theorem dK_plusCost_5 : decode cK_plusCost 5 = .ok (.ifCond .eq 8, 3) := by decide +kernel
theorem dK_plusCost_8 : decode cK_plusCost 8 = .ok (.iload_n 2, 1) := by decide +kernel
theorem dK_plusCost_9 : decode cK_plusCost 9 = .ok (.iconst (-1), 1) := by decide +kernel
theorem dK_plusCost_10 : decode cK_plusCost 10 = .ok (.if_icmp .ne 9, 3) := by decide +kernel
theorem dK_plusCost_13 : decode cK_plusCost 13 = .ok (.ldc2_w 11, 3) := by decide +kernel
theorem dK_plusCost_16 : decode cK_plusCost 16 = .ok (.goto 10, 3) := by decide +kernel
theorem dK_plusCost_19 : decode cK_plusCost 19 = .ok (.lload_n 0, 1) := by decide +kernel
theorem dK_plusCost_20 : decode cK_plusCost 20 = .ok (.iload_n 2, 1) := by decide +kernel
theorem dK_plusCost_21 : decode cK_plusCost 21 = .ok (.i2l, 1) := by decide +kernel
theorem dK_plusCost_22 : decode cK_plusCost 22 = .ok (.bipush 16, 2) := by decide +kernel
theorem dK_plusCost_24 : decode cK_plusCost 24 = .ok (.lshl, 1) := by decide +kernel
theorem dK_plusCost_25 : decode cK_plusCost 25 = .ok (.ladd, 1) := by decide +kernel
theorem dK_plusCost_26 : decode cK_plusCost 26 = .ok (.lreturn, 1) := by decide +kernel
theorem dK_plusWord_0 : decode cK_plusWord 0 = .ok (.lload_n 0, 1) := by decide +kernel
theorem dK_plusWord_1 : decode cK_plusWord 1 = .ok (.ldc2_w 11, 3) := by decide +kernel
theorem dK_plusWord_4 : decode cK_plusWord 4 = .ok (.lcmp, 1) := by decide +kernel
theorem dK_plusWord_5 : decode cK_plusWord 5 = .ok (.ifCond .ne 7, 3) := by decide +kernel
theorem dK_plusWord_8 : decode cK_plusWord 8 = .ok (.ldc2_w 11, 3) := by decide +kernel
theorem dK_plusWord_11 : decode cK_plusWord 11 = .ok (.lreturn, 1) := by decide +kernel
theorem dK_plusWord_12 : decode cK_plusWord 12 = .ok (.lload_n 0, 1) := by decide +kernel
theorem dK_plusWord_13 : decode cK_plusWord 13 = .ok (.ldc2_w 13, 3) := by decide +kernel
theorem dK_plusWord_16 : decode cK_plusWord 16 = .ok (.land, 1) := by decide +kernel
theorem dK_plusWord_17 : decode cK_plusWord 17 = .ok (.iconst 2, 1) := by decide +kernel
theorem dK_plusWord_18 : decode cK_plusWord 18 = .ok (.lshl, 1) := by decide +kernel
theorem dK_plusWord_19 : decode cK_plusWord 19 = .ok (.iload_n 2, 1) := by decide +kernel
theorem dK_plusWord_20 : decode cK_plusWord 20 = .ok (.i2l, 1) := by decide +kernel
theorem dK_plusWord_21 : decode cK_plusWord 21 = .ok (.lor, 1) := by decide +kernel
theorem dK_plusWord_22 : decode cK_plusWord 22 = .ok (.lstore_n 3, 1) := by decide +kernel
theorem dK_plusWord_23 : decode cK_plusWord 23 = .ok (.lload_n 0, 1) := by decide +kernel
theorem dK_plusWord_24 : decode cK_plusWord 24 = .ok (.ldc2_w 15, 3) := by decide +kernel
theorem dK_plusWord_27 : decode cK_plusWord 27 = .ok (.land, 1) := by decide +kernel
theorem dK_plusWord_28 : decode cK_plusWord 28 = .ok (.ldc2_w 17, 3) := by decide +kernel
theorem dK_plusWord_31 : decode cK_plusWord 31 = .ok (.ladd, 1) := by decide +kernel
theorem dK_plusWord_32 : decode cK_plusWord 32 = .ok (.lload_n 3, 1) := by decide +kernel
theorem dK_plusWord_33 : decode cK_plusWord 33 = .ok (.ladd, 1) := by decide +kernel
theorem dK_plusWord_34 : decode cK_plusWord 34 = .ok (.lreturn, 1) := by decide +kernel
theorem dK_costOf_0 : decode cK_costOf 0 = .ok (.lload_n 0, 1) := by decide +kernel
theorem dK_costOf_1 : decode cK_costOf 1 = .ok (.ldc2_w 11, 3) := by decide +kernel
theorem dK_costOf_4 : decode cK_costOf 4 = .ok (.lcmp, 1) := by decide +kernel
theorem dK_costOf_5 : decode cK_costOf 5 = .ok (.ifCond .ne 7, 3) := by decide +kernel
theorem dK_costOf_8 : decode cK_costOf 8 = .ok (.iconst (-1), 1) := by decide +kernel
theorem dK_costOf_9 : decode cK_costOf 9 = .ok (.goto 8, 3) := by decide +kernel
theorem dK_costOf_12 : decode cK_costOf 12 = .ok (.lload_n 0, 1) := by decide +kernel
theorem dK_costOf_13 : decode cK_costOf 13 = .ok (.bipush 16, 2) := by decide +kernel
theorem dK_costOf_15 : decode cK_costOf 15 = .ok (.lshr, 1) := by decide +kernel
theorem dK_costOf_16 : decode cK_costOf 16 = .ok (.l2i, 1) := by decide +kernel
theorem dK_costOf_17 : decode cK_costOf 17 = .ok (.ireturn, 1) := by decide +kernel
theorem dK_countOf_0 : decode cK_countOf 0 = .ok (.lload_n 0, 1) := by decide +kernel
theorem dK_countOf_1 : decode cK_countOf 1 = .ok (.ldc2_w 11, 3) := by decide +kernel
theorem dK_countOf_4 : decode cK_countOf 4 = .ok (.lcmp, 1) := by decide +kernel
theorem dK_countOf_5 : decode cK_countOf 5 = .ok (.ifCond .ne 7, 3) := by decide +kernel
theorem dK_countOf_8 : decode cK_countOf 8 = .ok (.iconst 0, 1) := by decide +kernel
theorem dK_countOf_9 : decode cK_countOf 9 = .ok (.goto 12, 3) := by decide +kernel
theorem dK_countOf_12 : decode cK_countOf 12 = .ok (.lload_n 0, 1) := by decide +kernel
theorem dK_countOf_13 : decode cK_countOf 13 = .ok (.bipush 10, 2) := by decide +kernel
theorem dK_countOf_15 : decode cK_countOf 15 = .ok (.lshr, 1) := by decide +kernel
theorem dK_countOf_16 : decode cK_countOf 16 = .ok (.ldc2_w 19, 3) := by decide +kernel
theorem dK_countOf_19 : decode cK_countOf 19 = .ok (.land, 1) := by decide +kernel
theorem dK_countOf_20 : decode cK_countOf 20 = .ok (.l2i, 1) := by decide +kernel
theorem dK_countOf_21 : decode cK_countOf 21 = .ok (.ireturn, 1) := by decide +kernel
theorem dK_wordOf_0 : decode cK_wordOf 0 = .ok (.lload_n 0, 1) := by decide +kernel
theorem dK_wordOf_1 : decode cK_wordOf 1 = .ok (.invokestatic 21, 3) := by decide +kernel
theorem dK_wordOf_4 : decode cK_wordOf 4 = .ok (.istore_n 3, 1) := by decide +kernel
theorem dK_wordOf_5 : decode cK_wordOf 5 = .ok (.iload_n 2, 1) := by decide +kernel
theorem dK_wordOf_6 : decode cK_wordOf 6 = .ok (.ifCond .lt 8, 3) := by decide +kernel
theorem dK_wordOf_9 : decode cK_wordOf 9 = .ok (.iload_n 2, 1) := by decide +kernel
theorem dK_wordOf_10 : decode cK_wordOf 10 = .ok (.iload_n 3, 1) := by decide +kernel
theorem dK_wordOf_11 : decode cK_wordOf 11 = .ok (.if_icmp .lt 5, 3) := by decide +kernel
theorem dK_wordOf_14 : decode cK_wordOf 14 = .ok (.iconst (-1), 1) := by decide +kernel
theorem dK_wordOf_15 : decode cK_wordOf 15 = .ok (.ireturn, 1) := by decide +kernel
theorem dK_wordOf_16 : decode cK_wordOf 16 = .ok (.lload_n 0, 1) := by decide +kernel
theorem dK_wordOf_17 : decode cK_wordOf 17 = .ok (.iload_n 3, 1) := by decide +kernel
theorem dK_wordOf_18 : decode cK_wordOf 18 = .ok (.iconst 1, 1) := by decide +kernel
theorem dK_wordOf_19 : decode cK_wordOf 19 = .ok (.isub, 1) := by decide +kernel
theorem dK_wordOf_20 : decode cK_wordOf 20 = .ok (.iload_n 2, 1) := by decide +kernel
theorem dK_wordOf_21 : decode cK_wordOf 21 = .ok (.isub, 1) := by decide +kernel
theorem dK_wordOf_22 : decode cK_wordOf 22 = .ok (.iconst 2, 1) := by decide +kernel
theorem dK_wordOf_23 : decode cK_wordOf 23 = .ok (.imul, 1) := by decide +kernel
theorem dK_wordOf_24 : decode cK_wordOf 24 = .ok (.lshr, 1) := by decide +kernel
theorem dK_wordOf_25 : decode cK_wordOf 25 = .ok (.l2i, 1) := by decide +kernel
theorem dK_wordOf_26 : decode cK_wordOf 26 = .ok (.iconst 3, 1) := by decide +kernel
theorem dK_wordOf_27 : decode cK_wordOf 27 = .ok (.iand, 1) := by decide +kernel
theorem dK_wordOf_28 : decode cK_wordOf 28 = .ok (.ireturn, 1) := by decide +kernel
theorem dT_init_0 : decode cT_init 0 = .ok (.aload_n 0, 1) := by decide +kernel
theorem dT_init_1 : decode cT_init 1 = .ok (.invokespecial 5, 3) := by decide +kernel
theorem dT_init_4 : decode cT_init 4 = .ok (.aload_n 0, 1) := by decide +kernel
theorem dT_init_5 : decode cT_init 5 = .ok (.bipush 25, 2) := by decide +kernel
theorem dT_init_7 : decode cT_init 7 = .ok (.newarray .int, 2) := by decide +kernel
theorem dT_init_9 : decode cT_init 9 = .ok (.putfield 11, 3) := by decide +kernel
theorem dT_init_12 : decode cT_init 12 = .ok (.aload_n 0, 1) := by decide +kernel
theorem dT_init_13 : decode cT_init 13 = .ok (.bipush 25, 2) := by decide +kernel
theorem dT_init_15 : decode cT_init 15 = .ok (.newarray .int, 2) := by decide +kernel
theorem dT_init_17 : decode cT_init 17 = .ok (.putfield 15, 3) := by decide +kernel
theorem dT_init_20 : decode cT_init 20 = .ok (.aload_n 0, 1) := by decide +kernel
theorem dT_init_21 : decode cT_init 21 = .ok (.bipush 100, 2) := by decide +kernel
theorem dT_init_23 : decode cT_init 23 = .ok (.newarray .int, 2) := by decide +kernel
theorem dT_init_25 : decode cT_init 25 = .ok (.putfield 18, 3) := by decide +kernel
theorem dT_init_28 : decode cT_init 28 = .ok (.aload_n 0, 1) := by decide +kernel
theorem dT_init_29 : decode cT_init 29 = .ok (.bipush 100, 2) := by decide +kernel
theorem dT_init_31 : decode cT_init 31 = .ok (.newarray .boolean, 2) := by decide +kernel
theorem dT_init_33 : decode cT_init 33 = .ok (.putfield 21, 3) := by decide +kernel
theorem dT_init_36 : decode cT_init 36 = .ok (.aload_n 0, 1) := by decide +kernel
theorem dT_init_37 : decode cT_init 37 = .ok (.iconst 0, 1) := by decide +kernel
theorem dT_init_38 : decode cT_init 38 = .ok (.putfield 25, 3) := by decide +kernel
theorem dT_init_41 : decode cT_init 41 = .ok (.aload_n 0, 1) := by decide +kernel
theorem dT_init_42 : decode cT_init 42 = .ok (.iconst 0, 1) := by decide +kernel
theorem dT_init_43 : decode cT_init 43 = .ok (.putfield 29, 3) := by decide +kernel
theorem dT_init_46 : decode cT_init 46 = .ok (.return_, 1) := by decide +kernel
theorem dT_size_0 : decode cT_size 0 = .ok (.aload_n 0, 1) := by decide +kernel
theorem dT_size_1 : decode cT_size 1 = .ok (.getfield 25, 3) := by decide +kernel
theorem dT_size_4 : decode cT_size 4 = .ok (.ireturn, 1) := by decide +kernel
theorem dT_isFull_0 : decode cT_isFull 0 = .ok (.aload_n 0, 1) := by decide +kernel
theorem dT_isFull_1 : decode cT_isFull 1 = .ok (.getfield 29, 3) := by decide +kernel
theorem dT_isFull_4 : decode cT_isFull 4 = .ok (.bipush 8, 2) := by decide +kernel
theorem dT_isFull_6 : decode cT_isFull 6 = .ok (.if_icmp .lt 7, 3) := by decide +kernel
theorem dT_isFull_9 : decode cT_isFull 9 = .ok (.iconst 1, 1) := by decide +kernel
theorem dT_isFull_10 : decode cT_isFull 10 = .ok (.goto 4, 3) := by decide +kernel
theorem dT_isFull_13 : decode cT_isFull 13 = .ok (.iconst 0, 1) := by decide +kernel
theorem dT_isFull_14 : decode cT_isFull 14 = .ok (.ireturn, 1) := by decide +kernel
theorem dT_phoneOf_0 : decode cT_phoneOf 0 = .ok (.aload_n 0, 1) := by decide +kernel
theorem dT_phoneOf_1 : decode cT_phoneOf 1 = .ok (.getfield 11, 3) := by decide +kernel
theorem dT_phoneOf_4 : decode cT_phoneOf 4 = .ok (.iload_n 1, 1) := by decide +kernel
theorem dT_phoneOf_5 : decode cT_phoneOf 5 = .ok (.iaload, 1) := by decide +kernel
theorem dT_phoneOf_6 : decode cT_phoneOf 6 = .ok (.ireturn, 1) := by decide +kernel
theorem dT_parentOf_0 : decode cT_parentOf 0 = .ok (.aload_n 0, 1) := by decide +kernel
theorem dT_parentOf_1 : decode cT_parentOf 1 = .ok (.getfield 15, 3) := by decide +kernel
theorem dT_parentOf_4 : decode cT_parentOf 4 = .ok (.iload_n 1, 1) := by decide +kernel
theorem dT_parentOf_5 : decode cT_parentOf 5 = .ok (.iaload, 1) := by decide +kernel
theorem dT_parentOf_6 : decode cT_parentOf 6 = .ok (.ireturn, 1) := by decide +kernel
theorem dT_endsWord_0 : decode cT_endsWord 0 = .ok (.aload_n 0, 1) := by decide +kernel
theorem dT_endsWord_1 : decode cT_endsWord 1 = .ok (.getfield 21, 3) := by decide +kernel
theorem dT_endsWord_4 : decode cT_endsWord 4 = .ok (.iload_n 1, 1) := by decide +kernel
theorem dT_endsWord_5 : decode cT_endsWord 5 = .ok (.iconst 4, 1) := by decide +kernel
theorem dT_endsWord_6 : decode cT_endsWord 6 = .ok (.imul, 1) := by decide +kernel
theorem dT_endsWord_7 : decode cT_endsWord 7 = .ok (.iload_n 2, 1) := by decide +kernel
theorem dT_endsWord_8 : decode cT_endsWord 8 = .ok (.iadd, 1) := by decide +kernel
theorem dT_endsWord_9 : decode cT_endsWord 9 = .ok (.baload, 1) := by decide +kernel
theorem dT_endsWord_10 : decode cT_endsWord 10 = .ok (.ireturn, 1) := by decide +kernel
theorem dT_has_0 : decode cT_has 0 = .ok (.aload_n 0, 1) := by decide +kernel
theorem dT_has_1 : decode cT_has 1 = .ok (.iconst 0, 1) := by decide +kernel
theorem dT_has_2 : decode cT_has 2 = .ok (.iload_n 2, 1) := by decide +kernel
theorem dT_has_3 : decode cT_has 3 = .ok (.invokevirtual 32, 3) := by decide +kernel
theorem dT_has_6 : decode cT_has 6 = .ok (.istore 5, 2) := by decide +kernel
theorem dT_has_8 : decode cT_has 8 = .ok (.iload 5, 2) := by decide +kernel
theorem dT_has_10 : decode cT_has 10 = .ok (.iconst (-1), 1) := by decide +kernel
theorem dT_has_11 : decode cT_has 11 = .ok (.if_icmp .eq 17, 3) := by decide +kernel
theorem dT_has_14 : decode cT_has 14 = .ok (.iload_n 3, 1) := by decide +kernel
theorem dT_has_15 : decode cT_has 15 = .ok (.iconst (-1), 1) := by decide +kernel
theorem dT_has_16 : decode cT_has 16 = .ok (.if_icmp .eq 12, 3) := by decide +kernel
theorem dT_has_19 : decode cT_has 19 = .ok (.aload_n 0, 1) := by decide +kernel
theorem dT_has_20 : decode cT_has 20 = .ok (.iload 5, 2) := by decide +kernel
theorem dT_has_22 : decode cT_has 22 = .ok (.iload_n 3, 1) := by decide +kernel
theorem dT_has_23 : decode cT_has 23 = .ok (.invokevirtual 32, 3) := by decide +kernel
theorem dT_has_26 : decode cT_has 26 = .ok (.istore 5, 2) := by decide +kernel
theorem dT_has_28 : decode cT_has 28 = .ok (.iload 5, 2) := by decide +kernel
theorem dT_has_30 : decode cT_has 30 = .ok (.iconst (-1), 1) := by decide +kernel
theorem dT_has_31 : decode cT_has 31 = .ok (.if_icmp .eq 19, 3) := by decide +kernel
theorem dT_has_34 : decode cT_has 34 = .ok (.iload 4, 2) := by decide +kernel
theorem dT_has_36 : decode cT_has 36 = .ok (.iconst (-1), 1) := by decide +kernel
theorem dT_has_37 : decode cT_has 37 = .ok (.if_icmp .eq 13, 3) := by decide +kernel
theorem dT_has_40 : decode cT_has 40 = .ok (.aload_n 0, 1) := by decide +kernel
theorem dT_has_41 : decode cT_has 41 = .ok (.iload 5, 2) := by decide +kernel
theorem dT_has_43 : decode cT_has 43 = .ok (.iload 4, 2) := by decide +kernel
theorem dT_has_45 : decode cT_has 45 = .ok (.invokevirtual 32, 3) := by decide +kernel
theorem dT_has_48 : decode cT_has 48 = .ok (.istore 5, 2) := by decide +kernel
theorem dT_has_50 : decode cT_has 50 = .ok (.iload 5, 2) := by decide +kernel
theorem dT_has_52 : decode cT_has 52 = .ok (.iconst (-1), 1) := by decide +kernel
theorem dT_has_53 : decode cT_has 53 = .ok (.if_icmp .eq 17, 3) := by decide +kernel
theorem dT_has_56 : decode cT_has 56 = .ok (.aload_n 0, 1) := by decide +kernel
theorem dT_has_57 : decode cT_has 57 = .ok (.iload 5, 2) := by decide +kernel
theorem dT_has_59 : decode cT_has 59 = .ok (.iload_n 1, 1) := by decide +kernel
theorem dT_has_60 : decode cT_has 60 = .ok (.invokevirtual 36, 3) := by decide +kernel
theorem dT_has_63 : decode cT_has 63 = .ok (.ifCond .eq 7, 3) := by decide +kernel
theorem dT_has_66 : decode cT_has 66 = .ok (.iconst 1, 1) := by decide +kernel
theorem dT_has_67 : decode cT_has 67 = .ok (.goto 4, 3) := by decide +kernel
theorem dT_has_70 : decode cT_has 70 = .ok (.iconst 0, 1) := by decide +kernel
theorem dT_has_71 : decode cT_has 71 = .ok (.ireturn, 1) := by decide +kernel
theorem dT_add_0 : decode cT_add 0 = .ok (.aload_n 0, 1) := by decide +kernel
theorem dT_add_1 : decode cT_add 1 = .ok (.iconst 0, 1) := by decide +kernel
theorem dT_add_2 : decode cT_add 2 = .ok (.iload_n 2, 1) := by decide +kernel
theorem dT_add_3 : decode cT_add 3 = .ok (.invokevirtual 40, 3) := by decide +kernel
theorem dT_add_6 : decode cT_add 6 = .ok (.istore 5, 2) := by decide +kernel
theorem dT_add_8 : decode cT_add 8 = .ok (.iload_n 3, 1) := by decide +kernel
theorem dT_add_9 : decode cT_add 9 = .ok (.iconst (-1), 1) := by decide +kernel
theorem dT_add_10 : decode cT_add 10 = .ok (.if_icmp .eq 12, 3) := by decide +kernel
theorem dT_add_13 : decode cT_add 13 = .ok (.aload_n 0, 1) := by decide +kernel
theorem dT_add_14 : decode cT_add 14 = .ok (.iload 5, 2) := by decide +kernel
theorem dT_add_16 : decode cT_add 16 = .ok (.iload_n 3, 1) := by decide +kernel
theorem dT_add_17 : decode cT_add 17 = .ok (.invokevirtual 40, 3) := by decide +kernel
theorem dT_add_20 : decode cT_add 20 = .ok (.istore 5, 2) := by decide +kernel
theorem dT_add_22 : decode cT_add 22 = .ok (.iload 4, 2) := by decide +kernel
theorem dT_add_24 : decode cT_add 24 = .ok (.iconst (-1), 1) := by decide +kernel
theorem dT_add_25 : decode cT_add 25 = .ok (.if_icmp .eq 13, 3) := by decide +kernel
theorem dT_add_28 : decode cT_add 28 = .ok (.aload_n 0, 1) := by decide +kernel
theorem dT_add_29 : decode cT_add 29 = .ok (.iload 5, 2) := by decide +kernel
theorem dT_add_31 : decode cT_add 31 = .ok (.iload 4, 2) := by decide +kernel
theorem dT_add_33 : decode cT_add 33 = .ok (.invokevirtual 40, 3) := by decide +kernel
theorem dT_add_36 : decode cT_add 36 = .ok (.istore 5, 2) := by decide +kernel
theorem dT_add_38 : decode cT_add 38 = .ok (.aload_n 0, 1) := by decide +kernel
theorem dT_add_39 : decode cT_add 39 = .ok (.getfield 21, 3) := by decide +kernel
theorem dT_add_42 : decode cT_add 42 = .ok (.iload 5, 2) := by decide +kernel
theorem dT_add_44 : decode cT_add 44 = .ok (.iconst 4, 1) := by decide +kernel
theorem dT_add_45 : decode cT_add 45 = .ok (.imul, 1) := by decide +kernel
theorem dT_add_46 : decode cT_add 46 = .ok (.iload_n 1, 1) := by decide +kernel
theorem dT_add_47 : decode cT_add 47 = .ok (.iadd, 1) := by decide +kernel
theorem dT_add_48 : decode cT_add 48 = .ok (.iconst 1, 1) := by decide +kernel
theorem dT_add_49 : decode cT_add 49 = .ok (.bastore, 1) := by decide +kernel
theorem dT_add_50 : decode cT_add 50 = .ok (.aload_n 0, 1) := by decide +kernel
theorem dT_add_51 : decode cT_add 51 = .ok (.dup, 1) := by decide +kernel
theorem dT_add_52 : decode cT_add 52 = .ok (.getfield 29, 3) := by decide +kernel
theorem dT_add_55 : decode cT_add 55 = .ok (.iconst 1, 1) := by decide +kernel
theorem dT_add_56 : decode cT_add 56 = .ok (.iadd, 1) := by decide +kernel
theorem dT_add_57 : decode cT_add 57 = .ok (.putfield 29, 3) := by decide +kernel
theorem dT_add_60 : decode cT_add 60 = .ok (.return_, 1) := by decide +kernel
theorem dT_childOf_0 : decode cT_childOf 0 = .ok (.aload_n 0, 1) := by decide +kernel
theorem dT_childOf_1 : decode cT_childOf 1 = .ok (.getfield 18, 3) := by decide +kernel
theorem dT_childOf_4 : decode cT_childOf 4 = .ok (.iload_n 1, 1) := by decide +kernel
theorem dT_childOf_5 : decode cT_childOf 5 = .ok (.iconst 4, 1) := by decide +kernel
theorem dT_childOf_6 : decode cT_childOf 6 = .ok (.imul, 1) := by decide +kernel
theorem dT_childOf_7 : decode cT_childOf 7 = .ok (.iload_n 2, 1) := by decide +kernel
theorem dT_childOf_8 : decode cT_childOf 8 = .ok (.iadd, 1) := by decide +kernel
theorem dT_childOf_9 : decode cT_childOf 9 = .ok (.iaload, 1) := by decide +kernel
theorem dT_childOf_10 : decode cT_childOf 10 = .ok (.istore_n 3, 1) := by decide +kernel
theorem dT_childOf_11 : decode cT_childOf 11 = .ok (.iload_n 3, 1) := by decide +kernel
theorem dT_childOf_12 : decode cT_childOf 12 = .ok (.ifCond .ne 7, 3) := by decide +kernel
theorem dT_childOf_15 : decode cT_childOf 15 = .ok (.iconst (-1), 1) := by decide +kernel
theorem dT_childOf_16 : decode cT_childOf 16 = .ok (.goto 4, 3) := by decide +kernel
theorem dT_childOf_19 : decode cT_childOf 19 = .ok (.iload_n 3, 1) := by decide +kernel
theorem dT_childOf_20 : decode cT_childOf 20 = .ok (.ireturn, 1) := by decide +kernel
theorem dT_grow_0 : decode cT_grow 0 = .ok (.aload_n 0, 1) := by decide +kernel
theorem dT_grow_1 : decode cT_grow 1 = .ok (.iload_n 1, 1) := by decide +kernel
theorem dT_grow_2 : decode cT_grow 2 = .ok (.iload_n 2, 1) := by decide +kernel
theorem dT_grow_3 : decode cT_grow 3 = .ok (.invokevirtual 32, 3) := by decide +kernel
theorem dT_grow_6 : decode cT_grow 6 = .ok (.istore_n 3, 1) := by decide +kernel
theorem dT_grow_7 : decode cT_grow 7 = .ok (.iload_n 3, 1) := by decide +kernel
theorem dT_grow_8 : decode cT_grow 8 = .ok (.iconst (-1), 1) := by decide +kernel
theorem dT_grow_9 : decode cT_grow 9 = .ok (.if_icmp .eq 5, 3) := by decide +kernel
theorem dT_grow_12 : decode cT_grow 12 = .ok (.iload_n 3, 1) := by decide +kernel
theorem dT_grow_13 : decode cT_grow 13 = .ok (.ireturn, 1) := by decide +kernel
theorem dT_grow_14 : decode cT_grow 14 = .ok (.aload_n 0, 1) := by decide +kernel
theorem dT_grow_15 : decode cT_grow 15 = .ok (.dup, 1) := by decide +kernel
theorem dT_grow_16 : decode cT_grow 16 = .ok (.getfield 25, 3) := by decide +kernel
theorem dT_grow_19 : decode cT_grow 19 = .ok (.iconst 1, 1) := by decide +kernel
theorem dT_grow_20 : decode cT_grow 20 = .ok (.iadd, 1) := by decide +kernel
theorem dT_grow_21 : decode cT_grow 21 = .ok (.putfield 25, 3) := by decide +kernel
theorem dT_grow_24 : decode cT_grow 24 = .ok (.aload_n 0, 1) := by decide +kernel
theorem dT_grow_25 : decode cT_grow 25 = .ok (.getfield 11, 3) := by decide +kernel
theorem dT_grow_28 : decode cT_grow 28 = .ok (.aload_n 0, 1) := by decide +kernel
theorem dT_grow_29 : decode cT_grow 29 = .ok (.getfield 25, 3) := by decide +kernel
theorem dT_grow_32 : decode cT_grow 32 = .ok (.iload_n 2, 1) := by decide +kernel
theorem dT_grow_33 : decode cT_grow 33 = .ok (.iastore, 1) := by decide +kernel
theorem dT_grow_34 : decode cT_grow 34 = .ok (.aload_n 0, 1) := by decide +kernel
theorem dT_grow_35 : decode cT_grow 35 = .ok (.getfield 15, 3) := by decide +kernel
theorem dT_grow_38 : decode cT_grow 38 = .ok (.aload_n 0, 1) := by decide +kernel
theorem dT_grow_39 : decode cT_grow 39 = .ok (.getfield 25, 3) := by decide +kernel
theorem dT_grow_42 : decode cT_grow 42 = .ok (.iload_n 1, 1) := by decide +kernel
theorem dT_grow_43 : decode cT_grow 43 = .ok (.iastore, 1) := by decide +kernel
theorem dT_grow_44 : decode cT_grow 44 = .ok (.aload_n 0, 1) := by decide +kernel
theorem dT_grow_45 : decode cT_grow 45 = .ok (.getfield 18, 3) := by decide +kernel
theorem dT_grow_48 : decode cT_grow 48 = .ok (.iload_n 1, 1) := by decide +kernel
theorem dT_grow_49 : decode cT_grow 49 = .ok (.iconst 4, 1) := by decide +kernel
theorem dT_grow_50 : decode cT_grow 50 = .ok (.imul, 1) := by decide +kernel
theorem dT_grow_51 : decode cT_grow 51 = .ok (.iload_n 2, 1) := by decide +kernel
theorem dT_grow_52 : decode cT_grow 52 = .ok (.iadd, 1) := by decide +kernel
theorem dT_grow_53 : decode cT_grow 53 = .ok (.aload_n 0, 1) := by decide +kernel
theorem dT_grow_54 : decode cT_grow 54 = .ok (.getfield 25, 3) := by decide +kernel
theorem dT_grow_57 : decode cT_grow 57 = .ok (.iastore, 1) := by decide +kernel
theorem dT_grow_58 : decode cT_grow 58 = .ok (.aload_n 0, 1) := by decide +kernel
theorem dT_grow_59 : decode cT_grow 59 = .ok (.getfield 25, 3) := by decide +kernel
theorem dT_grow_62 : decode cT_grow 62 = .ok (.ireturn, 1) := by decide +kernel
end
section
theorem dQ_init_0 : decode cQ_init 0 = .ok (.aload_n 0, 1) := by decide +kernel
theorem dQ_init_1 : decode cQ_init 1 = .ok (.invokespecial 5, 3) := by decide +kernel
theorem dQ_init_4 : decode cQ_init 4 = .ok (.aload_n 0, 1) := by decide +kernel
theorem dQ_init_5 : decode cQ_init 5 = .ok (.aload_n 1, 1) := by decide +kernel
theorem dQ_init_6 : decode cQ_init 6 = .ok (.putfield 11, 3) := by decide +kernel
theorem dQ_init_9 : decode cQ_init 9 = .ok (.aload_n 0, 1) := by decide +kernel
theorem dQ_init_10 : decode cQ_init 10 = .ok (.aload_n 2, 1) := by decide +kernel
theorem dQ_init_11 : decode cQ_init 11 = .ok (.putfield 15, 3) := by decide +kernel
theorem dQ_init_14 : decode cQ_init 14 = .ok (.aload_n 0, 1) := by decide +kernel
theorem dQ_init_15 : decode cQ_init 15 = .ok (.aload_n 3, 1) := by decide +kernel
theorem dQ_init_16 : decode cQ_init 16 = .ok (.putfield 19, 3) := by decide +kernel
theorem dQ_init_19 : decode cQ_init 19 = .ok (.aload_n 0, 1) := by decide +kernel
theorem dQ_init_20 : decode cQ_init 20 = .ok (.sipush 1875, 3) := by decide +kernel
theorem dQ_init_23 : decode cQ_init 23 = .ok (.newarray .long, 2) := by decide +kernel
theorem dQ_init_25 : decode cQ_init 25 = .ok (.putfield 25, 3) := by decide +kernel
theorem dQ_init_28 : decode cQ_init 28 = .ok (.aload_n 0, 1) := by decide +kernel
theorem dQ_init_29 : decode cQ_init 29 = .ok (.bipush 25, 2) := by decide +kernel
theorem dQ_init_31 : decode cQ_init 31 = .ok (.newarray .long, 2) := by decide +kernel
theorem dQ_init_33 : decode cQ_init 33 = .ok (.putfield 29, 3) := by decide +kernel
theorem dQ_init_36 : decode cQ_init 36 = .ok (.aload_n 0, 1) := by decide +kernel
theorem dQ_init_37 : decode cQ_init 37 = .ok (.bipush 16, 2) := by decide +kernel
theorem dQ_init_39 : decode cQ_init 39 = .ok (.newarray .int, 2) := by decide +kernel
theorem dQ_init_41 : decode cQ_init 41 = .ok (.putfield 32, 3) := by decide +kernel
theorem dQ_init_44 : decode cQ_init 44 = .ok (.aload_n 0, 1) := by decide +kernel
theorem dQ_init_45 : decode cQ_init 45 = .ok (.bipush 16, 2) := by decide +kernel
theorem dQ_init_47 : decode cQ_init 47 = .ok (.newarray .long, 2) := by decide +kernel
theorem dQ_init_49 : decode cQ_init 49 = .ok (.putfield 36, 3) := by decide +kernel
theorem dQ_init_52 : decode cQ_init 52 = .ok (.aload_n 0, 1) := by decide +kernel
theorem dQ_init_53 : decode cQ_init 53 = .ok (.ldc2_w 41, 3) := by decide +kernel
theorem dQ_init_56 : decode cQ_init 56 = .ok (.putfield 43, 3) := by decide +kernel
theorem dQ_init_59 : decode cQ_init 59 = .ok (.return_, 1) := by decide +kernel
theorem dQ_placesAfter_0 : decode cQ_placesAfter 0 = .ok (.aload_n 0, 1) := by decide +kernel
theorem dQ_placesAfter_1 : decode cQ_placesAfter 1 = .ok (.getfield 32, 3) := by decide +kernel
theorem dQ_placesAfter_4 : decode cQ_placesAfter 4 = .ok (.iload_n 1, 1) := by decide +kernel
theorem dQ_placesAfter_5 : decode cQ_placesAfter 5 = .ok (.iaload, 1) := by decide +kernel
theorem dQ_placesAfter_6 : decode cQ_placesAfter 6 = .ok (.ireturn, 1) := by decide +kernel
theorem dQ_leastAfter_0 : decode cQ_leastAfter 0 = .ok (.aload_n 0, 1) := by decide +kernel
theorem dQ_leastAfter_1 : decode cQ_leastAfter 1 = .ok (.getfield 36, 3) := by decide +kernel
theorem dQ_leastAfter_4 : decode cQ_leastAfter 4 = .ok (.iload_n 1, 1) := by decide +kernel
theorem dQ_leastAfter_5 : decode cQ_leastAfter 5 = .ok (.laload, 1) := by decide +kernel
theorem dQ_leastAfter_6 : decode cQ_leastAfter 6 = .ok (.lreturn, 1) := by decide +kernel
theorem dQ_wholePath_0 : decode cQ_wholePath 0 = .ok (.aload_n 0, 1) := by decide +kernel
theorem dQ_wholePath_1 : decode cQ_wholePath 1 = .ok (.getfield 43, 3) := by decide +kernel
theorem dQ_wholePath_4 : decode cQ_wholePath 4 = .ok (.lreturn, 1) := by decide +kernel
theorem dQ_run_0 : decode cQ_run 0 = .ok (.aload_n 0, 1) := by decide +kernel
theorem dQ_run_1 : decode cQ_run 1 = .ok (.getfield 25, 3) := by decide +kernel
theorem dQ_run_4 : decode cQ_run 4 = .ok (.ldc2_w 41, 3) := by decide +kernel
theorem dQ_run_7 : decode cQ_run 7 = .ok (.invokestatic 47, 3) := by decide +kernel
theorem dQ_run_10 : decode cQ_run 10 = .ok (.aload_n 0, 1) := by decide +kernel
theorem dQ_run_11 : decode cQ_run 11 = .ok (.getfield 29, 3) := by decide +kernel
theorem dQ_run_14 : decode cQ_run 14 = .ok (.ldc2_w 41, 3) := by decide +kernel
theorem dQ_run_17 : decode cQ_run 17 = .ok (.invokestatic 47, 3) := by decide +kernel
theorem dQ_run_20 : decode cQ_run 20 = .ok (.aload_n 0, 1) := by decide +kernel
theorem dQ_run_21 : decode cQ_run 21 = .ok (.getfield 29, 3) := by decide +kernel
theorem dQ_run_24 : decode cQ_run 24 = .ok (.iconst 4, 1) := by decide +kernel
theorem dQ_run_25 : decode cQ_run 25 = .ok (.iconst 4, 1) := by decide +kernel
theorem dQ_run_26 : decode cQ_run 26 = .ok (.invokestatic 53, 3) := by decide +kernel
theorem dQ_run_29 : decode cQ_run 29 = .ok (.lconst 0, 1) := by decide +kernel
theorem dQ_run_30 : decode cQ_run 30 = .ok (.lastore, 1) := by decide +kernel
theorem dQ_run_31 : decode cQ_run 31 = .ok (.iconst 0, 1) := by decide +kernel
theorem dQ_run_32 : decode cQ_run 32 = .ok (.istore_n 1, 1) := by decide +kernel
theorem dQ_run_33 : decode cQ_run 33 = .ok (.iload_n 1, 1) := by decide +kernel
theorem dQ_run_34 : decode cQ_run 34 = .ok (.aload_n 0, 1) := by decide +kernel
theorem dQ_run_35 : decode cQ_run 35 = .ok (.getfield 19, 3) := by decide +kernel
theorem dQ_run_38 : decode cQ_run 38 = .ok (.invokevirtual 57, 3) := by decide +kernel
theorem dQ_run_41 : decode cQ_run 41 = .ok (.if_icmp .ge 65, 3) := by decide +kernel
theorem dQ_run_44 : decode cQ_run 44 = .ok (.iconst 0, 1) := by decide +kernel
theorem dQ_run_45 : decode cQ_run 45 = .ok (.istore_n 2, 1) := by decide +kernel
theorem dQ_run_46 : decode cQ_run 46 = .ok (.iload_n 2, 1) := by decide +kernel
theorem dQ_run_47 : decode cQ_run 47 = .ok (.bipush 25, 2) := by decide +kernel
theorem dQ_run_49 : decode cQ_run 49 = .ok (.if_icmp .ge 15, 3) := by decide +kernel
theorem dQ_run_52 : decode cQ_run 52 = .ok (.aload_n 0, 1) := by decide +kernel
theorem dQ_run_53 : decode cQ_run 53 = .ok (.iload_n 1, 1) := by decide +kernel
theorem dQ_run_54 : decode cQ_run 54 = .ok (.iload_n 2, 1) := by decide +kernel
theorem dQ_run_55 : decode cQ_run 55 = .ok (.invokevirtual 63, 3) := by decide +kernel
theorem dQ_run_58 : decode cQ_run 58 = .ok (.iinc 2 1, 3) := by decide +kernel
theorem dQ_run_61 : decode cQ_run 61 = .ok (.goto (-15), 3) := by decide +kernel
theorem dQ_run_64 : decode cQ_run 64 = .ok (.aload_n 0, 1) := by decide +kernel
theorem dQ_run_65 : decode cQ_run 65 = .ok (.getfield 29, 3) := by decide +kernel
theorem dQ_run_68 : decode cQ_run 68 = .ok (.ldc2_w 41, 3) := by decide +kernel
theorem dQ_run_71 : decode cQ_run 71 = .ok (.invokestatic 47, 3) := by decide +kernel
theorem dQ_run_74 : decode cQ_run 74 = .ok (.iconst 0, 1) := by decide +kernel
theorem dQ_run_75 : decode cQ_run 75 = .ok (.istore_n 2, 1) := by decide +kernel
theorem dQ_run_76 : decode cQ_run 76 = .ok (.iload_n 2, 1) := by decide +kernel
theorem dQ_run_77 : decode cQ_run 77 = .ok (.bipush 25, 2) := by decide +kernel
theorem dQ_run_79 : decode cQ_run 79 = .ok (.if_icmp .ge 14, 3) := by decide +kernel
theorem dQ_run_82 : decode cQ_run 82 = .ok (.aload_n 0, 1) := by decide +kernel
theorem dQ_run_83 : decode cQ_run 83 = .ok (.iload_n 2, 1) := by decide +kernel
theorem dQ_run_84 : decode cQ_run 84 = .ok (.invokevirtual 67, 3) := by decide +kernel
theorem dQ_run_87 : decode cQ_run 87 = .ok (.iinc 2 1, 3) := by decide +kernel
theorem dQ_run_90 : decode cQ_run 90 = .ok (.goto (-14), 3) := by decide +kernel
theorem dQ_run_93 : decode cQ_run 93 = .ok (.aload_n 0, 1) := by decide +kernel
theorem dQ_run_94 : decode cQ_run 94 = .ok (.iload_n 1, 1) := by decide +kernel
theorem dQ_run_95 : decode cQ_run 95 = .ok (.iconst 1, 1) := by decide +kernel
theorem dQ_run_96 : decode cQ_run 96 = .ok (.iadd, 1) := by decide +kernel
theorem dQ_run_97 : decode cQ_run 97 = .ok (.invokevirtual 71, 3) := by decide +kernel
theorem dQ_run_100 : decode cQ_run 100 = .ok (.iinc 1 1, 3) := by decide +kernel
theorem dQ_run_103 : decode cQ_run 103 = .ok (.goto (-70), 3) := by decide +kernel
theorem dQ_run_106 : decode cQ_run 106 = .ok (.aload_n 0, 1) := by decide +kernel
theorem dQ_run_107 : decode cQ_run 107 = .ok (.invokevirtual 74, 3) := by decide +kernel
theorem dQ_run_110 : decode cQ_run 110 = .ok (.return_, 1) := by decide +kernel
theorem dQ_hear_0 : decode cQ_hear 0 = .ok (.aload_n 0, 1) := by decide +kernel
theorem dQ_hear_1 : decode cQ_hear 1 = .ok (.getfield 11, 3) := by decide +kernel
theorem dQ_hear_4 : decode cQ_hear 4 = .ok (.invokevirtual 77, 3) := by decide +kernel
theorem dQ_hear_7 : decode cQ_hear 7 = .ok (.istore_n 3, 1) := by decide +kernel
theorem dQ_hear_8 : decode cQ_hear 8 = .ok (.iload_n 3, 1) := by decide +kernel
theorem dQ_hear_9 : decode cQ_hear 9 = .ok (.ifCond .le 98, 3) := by decide +kernel
theorem dQ_hear_12 : decode cQ_hear 12 = .ok (.iconst 2, 1) := by decide +kernel
theorem dQ_hear_13 : decode cQ_hear 13 = .ok (.istore 4, 2) := by decide +kernel
theorem dQ_hear_15 : decode cQ_hear 15 = .ok (.iload 4, 2) := by decide +kernel
theorem dQ_hear_17 : decode cQ_hear 17 = .ok (.ifCond .lt 84, 3) := by decide +kernel
theorem dQ_hear_20 : decode cQ_hear 20 = .ok (.iload_n 2, 1) := by decide +kernel
theorem dQ_hear_21 : decode cQ_hear 21 = .ok (.iload_n 3, 1) := by decide +kernel
theorem dQ_hear_22 : decode cQ_hear 22 = .ok (.iload 4, 2) := by decide +kernel
theorem dQ_hear_24 : decode cQ_hear 24 = .ok (.invokestatic 80, 3) := by decide +kernel
theorem dQ_hear_27 : decode cQ_hear 27 = .ok (.istore 5, 2) := by decide +kernel
theorem dQ_hear_29 : decode cQ_hear 29 = .ok (.aload_n 0, 1) := by decide +kernel
theorem dQ_hear_30 : decode cQ_hear 30 = .ok (.getfield 25, 3) := by decide +kernel
theorem dQ_hear_33 : decode cQ_hear 33 = .ok (.iload 5, 2) := by decide +kernel
theorem dQ_hear_35 : decode cQ_hear 35 = .ok (.laload, 1) := by decide +kernel
theorem dQ_hear_36 : decode cQ_hear 36 = .ok (.aload_n 0, 1) := by decide +kernel
theorem dQ_hear_37 : decode cQ_hear 37 = .ok (.getfield 19, 3) := by decide +kernel
theorem dQ_hear_40 : decode cQ_hear 40 = .ok (.iload 4, 2) := by decide +kernel
theorem dQ_hear_42 : decode cQ_hear 42 = .ok (.invokevirtual 84, 3) := by decide +kernel
theorem dQ_hear_45 : decode cQ_hear 45 = .ok (.invokestatic 88, 3) := by decide +kernel
theorem dQ_hear_48 : decode cQ_hear 48 = .ok (.lstore 6, 2) := by decide +kernel
theorem dQ_hear_50 : decode cQ_hear 50 = .ok (.lload 6, 2) := by decide +kernel
theorem dQ_hear_52 : decode cQ_hear 52 = .ok (.aload_n 0, 1) := by decide +kernel
theorem dQ_hear_53 : decode cQ_hear 53 = .ok (.iload_n 2, 1) := by decide +kernel
theorem dQ_hear_54 : decode cQ_hear 54 = .ok (.iload_n 3, 1) := by decide +kernel
theorem dQ_hear_55 : decode cQ_hear 55 = .ok (.iload 4, 2) := by decide +kernel
theorem dQ_hear_57 : decode cQ_hear 57 = .ok (.invokevirtual 92, 3) := by decide +kernel
theorem dQ_hear_60 : decode cQ_hear 60 = .ok (.invokestatic 96, 3) := by decide +kernel
theorem dQ_hear_63 : decode cQ_hear 63 = .ok (.lstore 8, 2) := by decide +kernel
theorem dQ_hear_65 : decode cQ_hear 65 = .ok (.aload_n 0, 1) := by decide +kernel
theorem dQ_hear_66 : decode cQ_hear 66 = .ok (.getfield 25, 3) := by decide +kernel
theorem dQ_hear_69 : decode cQ_hear 69 = .ok (.iload 5, 2) := by decide +kernel
theorem dQ_hear_71 : decode cQ_hear 71 = .ok (.lload 8, 2) := by decide +kernel
theorem dQ_hear_73 : decode cQ_hear 73 = .ok (.aload_n 0, 1) := by decide +kernel
theorem dQ_hear_74 : decode cQ_hear 74 = .ok (.getfield 19, 3) := by decide +kernel
theorem dQ_hear_77 : decode cQ_hear 77 = .ok (.iload_n 1, 1) := by decide +kernel
theorem dQ_hear_78 : decode cQ_hear 78 = .ok (.aload_n 0, 1) := by decide +kernel
theorem dQ_hear_79 : decode cQ_hear 79 = .ok (.getfield 11, 3) := by decide +kernel
theorem dQ_hear_82 : decode cQ_hear 82 = .ok (.iload_n 3, 1) := by decide +kernel
theorem dQ_hear_83 : decode cQ_hear 83 = .ok (.invokevirtual 102, 3) := by decide +kernel
theorem dQ_hear_86 : decode cQ_hear 86 = .ok (.iload 4, 2) := by decide +kernel
theorem dQ_hear_88 : decode cQ_hear 88 = .ok (.invokevirtual 105, 3) := by decide +kernel
theorem dQ_hear_91 : decode cQ_hear 91 = .ok (.invokestatic 88, 3) := by decide +kernel
theorem dQ_hear_94 : decode cQ_hear 94 = .ok (.lastore, 1) := by decide +kernel
theorem dQ_hear_95 : decode cQ_hear 95 = .ok (.iinc 4 (-1), 3) := by decide +kernel
theorem dQ_hear_98 : decode cQ_hear 98 = .ok (.goto (-83), 3) := by decide +kernel
theorem dQ_hear_101 : decode cQ_hear 101 = .ok (.iinc 3 (-1), 3) := by decide +kernel
theorem dQ_hear_104 : decode cQ_hear 104 = .ok (.goto (-96), 3) := by decide +kernel
theorem dQ_hear_107 : decode cQ_hear 107 = .ok (.return_, 1) := by decide +kernel
theorem dQ_coming_0 : decode cQ_coming 0 = .ok (.iload_n 3, 1) := by decide +kernel
theorem dQ_coming_1 : decode cQ_coming 1 = .ok (.ifCond .le 13, 3) := by decide +kernel
theorem dQ_coming_4 : decode cQ_coming 4 = .ok (.aload_n 0, 1) := by decide +kernel
theorem dQ_coming_5 : decode cQ_coming 5 = .ok (.iload_n 1, 1) := by decide +kernel
theorem dQ_coming_6 : decode cQ_coming 6 = .ok (.iload_n 2, 1) := by decide +kernel
theorem dQ_coming_7 : decode cQ_coming 7 = .ok (.iload_n 3, 1) := by decide +kernel
theorem dQ_coming_8 : decode cQ_coming 8 = .ok (.iconst 1, 1) := by decide +kernel
theorem dQ_coming_9 : decode cQ_coming 9 = .ok (.isub, 1) := by decide +kernel
theorem dQ_coming_10 : decode cQ_coming 10 = .ok (.invokevirtual 108, 3) := by decide +kernel
theorem dQ_coming_13 : decode cQ_coming 13 = .ok (.lreturn, 1) := by decide +kernel
theorem dQ_coming_14 : decode cQ_coming 14 = .ok (.aload_n 0, 1) := by decide +kernel
theorem dQ_coming_15 : decode cQ_coming 15 = .ok (.getfield 11, 3) := by decide +kernel
theorem dQ_coming_18 : decode cQ_coming 18 = .ok (.iload_n 2, 1) := by decide +kernel
theorem dQ_coming_19 : decode cQ_coming 19 = .ok (.invokevirtual 111, 3) := by decide +kernel
theorem dQ_coming_22 : decode cQ_coming 22 = .ok (.istore 4, 2) := by decide +kernel
theorem dQ_coming_24 : decode cQ_coming 24 = .ok (.iload 4, 2) := by decide +kernel
theorem dQ_coming_26 : decode cQ_coming 26 = .ok (.ifCond .ne 12, 3) := by decide +kernel
theorem dQ_coming_29 : decode cQ_coming 29 = .ok (.aload_n 0, 1) := by decide +kernel
theorem dQ_coming_30 : decode cQ_coming 30 = .ok (.getfield 29, 3) := by decide +kernel
theorem dQ_coming_33 : decode cQ_coming 33 = .ok (.iload_n 1, 1) := by decide +kernel
theorem dQ_coming_34 : decode cQ_coming 34 = .ok (.laload, 1) := by decide +kernel
theorem dQ_coming_35 : decode cQ_coming 35 = .ok (.goto 11, 3) := by decide +kernel
theorem dQ_coming_38 : decode cQ_coming 38 = .ok (.aload_n 0, 1) := by decide +kernel
theorem dQ_coming_39 : decode cQ_coming 39 = .ok (.iload_n 1, 1) := by decide +kernel
theorem dQ_coming_40 : decode cQ_coming 40 = .ok (.iload 4, 2) := by decide +kernel
theorem dQ_coming_42 : decode cQ_coming 42 = .ok (.iconst 2, 1) := by decide +kernel
theorem dQ_coming_43 : decode cQ_coming 43 = .ok (.invokevirtual 108, 3) := by decide +kernel
theorem dQ_coming_46 : decode cQ_coming 46 = .ok (.lreturn, 1) := by decide +kernel
theorem dQ_leaving_0 : decode cQ_leaving 0 = .ok (.aload_n 0, 1) := by decide +kernel
theorem dQ_leaving_1 : decode cQ_leaving 1 = .ok (.getfield 25, 3) := by decide +kernel
theorem dQ_leaving_4 : decode cQ_leaving 4 = .ok (.iload_n 1, 1) := by decide +kernel
theorem dQ_leaving_5 : decode cQ_leaving 5 = .ok (.iload_n 2, 1) := by decide +kernel
theorem dQ_leaving_6 : decode cQ_leaving 6 = .ok (.iload_n 3, 1) := by decide +kernel
theorem dQ_leaving_7 : decode cQ_leaving 7 = .ok (.invokestatic 80, 3) := by decide +kernel
theorem dQ_leaving_10 : decode cQ_leaving 10 = .ok (.laload, 1) := by decide +kernel
theorem dQ_leaving_11 : decode cQ_leaving 11 = .ok (.aload_n 0, 1) := by decide +kernel
theorem dQ_leaving_12 : decode cQ_leaving 12 = .ok (.getfield 19, 3) := by decide +kernel
theorem dQ_leaving_15 : decode cQ_leaving 15 = .ok (.iload_n 3, 1) := by decide +kernel
theorem dQ_leaving_16 : decode cQ_leaving 16 = .ok (.invokevirtual 114, 3) := by decide +kernel
theorem dQ_leaving_19 : decode cQ_leaving 19 = .ok (.invokestatic 88, 3) := by decide +kernel
theorem dQ_leaving_22 : decode cQ_leaving 22 = .ok (.lreturn, 1) := by decide +kernel
theorem dQ_endWords_0 : decode cQ_endWords 0 = .ok (.iload_n 1, 1) := by decide +kernel
theorem dQ_endWords_1 : decode cQ_endWords 1 = .ok (.iconst 5, 1) := by decide +kernel
theorem dQ_endWords_2 : decode cQ_endWords 2 = .ok (.idiv, 1) := by decide +kernel
theorem dQ_endWords_3 : decode cQ_endWords 3 = .ok (.istore_n 2, 1) := by decide +kernel
theorem dQ_endWords_4 : decode cQ_endWords 4 = .ok (.iload_n 1, 1) := by decide +kernel
theorem dQ_endWords_5 : decode cQ_endWords 5 = .ok (.iconst 5, 1) := by decide +kernel
theorem dQ_endWords_6 : decode cQ_endWords 6 = .ok (.irem, 1) := by decide +kernel
theorem dQ_endWords_7 : decode cQ_endWords 7 = .ok (.istore_n 3, 1) := by decide +kernel
theorem dQ_endWords_8 : decode cQ_endWords 8 = .ok (.iconst 1, 1) := by decide +kernel
theorem dQ_endWords_9 : decode cQ_endWords 9 = .ok (.istore 4, 2) := by decide +kernel
theorem dQ_endWords_11 : decode cQ_endWords 11 = .ok (.iload 4, 2) := by decide +kernel
theorem dQ_endWords_13 : decode cQ_endWords 13 = .ok (.aload_n 0, 1) := by decide +kernel
theorem dQ_endWords_14 : decode cQ_endWords 14 = .ok (.getfield 11, 3) := by decide +kernel
theorem dQ_endWords_17 : decode cQ_endWords 17 = .ok (.invokevirtual 77, 3) := by decide +kernel
theorem dQ_endWords_20 : decode cQ_endWords 20 = .ok (.if_icmp .gt 107, 3) := by decide +kernel
theorem dQ_endWords_23 : decode cQ_endWords 23 = .ok (.aload_n 0, 1) := by decide +kernel
theorem dQ_endWords_24 : decode cQ_endWords 24 = .ok (.iload_n 1, 1) := by decide +kernel
theorem dQ_endWords_25 : decode cQ_endWords 25 = .ok (.iload 4, 2) := by decide +kernel
theorem dQ_endWords_27 : decode cQ_endWords 27 = .ok (.iconst 2, 1) := by decide +kernel
theorem dQ_endWords_28 : decode cQ_endWords 28 = .ok (.invokevirtual 108, 3) := by decide +kernel
theorem dQ_endWords_31 : decode cQ_endWords 31 = .ok (.lstore 5, 2) := by decide +kernel
theorem dQ_endWords_33 : decode cQ_endWords 33 = .ok (.iconst 0, 1) := by decide +kernel
theorem dQ_endWords_34 : decode cQ_endWords 34 = .ok (.istore 7, 2) := by decide +kernel
theorem dQ_endWords_36 : decode cQ_endWords 36 = .ok (.iload 7, 2) := by decide +kernel
theorem dQ_endWords_38 : decode cQ_endWords 38 = .ok (.iconst 4, 1) := by decide +kernel
theorem dQ_endWords_39 : decode cQ_endWords 39 = .ok (.if_icmp .ge 82, 3) := by decide +kernel
theorem dQ_endWords_42 : decode cQ_endWords 42 = .ok (.lload 5, 2) := by decide +kernel
theorem dQ_endWords_44 : decode cQ_endWords 44 = .ok (.ldc2_w 41, 3) := by decide +kernel
theorem dQ_endWords_47 : decode cQ_endWords 47 = .ok (.lcmp, 1) := by decide +kernel
theorem dQ_endWords_48 : decode cQ_endWords 48 = .ok (.ifCond .eq 67, 3) := by decide +kernel
theorem dQ_endWords_51 : decode cQ_endWords 51 = .ok (.aload_n 0, 1) := by decide +kernel
theorem dQ_endWords_52 : decode cQ_endWords 52 = .ok (.getfield 11, 3) := by decide +kernel
theorem dQ_endWords_55 : decode cQ_endWords 55 = .ok (.iload 4, 2) := by decide +kernel
theorem dQ_endWords_57 : decode cQ_endWords 57 = .ok (.iload 7, 2) := by decide +kernel
theorem dQ_endWords_59 : decode cQ_endWords 59 = .ok (.invokevirtual 117, 3) := by decide +kernel
theorem dQ_endWords_62 : decode cQ_endWords 62 = .ok (.ifCond .eq 53, 3) := by decide +kernel
theorem dQ_endWords_65 : decode cQ_endWords 65 = .ok (.iload_n 3, 1) := by decide +kernel
theorem dQ_endWords_66 : decode cQ_endWords 66 = .ok (.iload 7, 2) := by decide +kernel
theorem dQ_endWords_68 : decode cQ_endWords 68 = .ok (.invokestatic 53, 3) := by decide +kernel
theorem dQ_endWords_71 : decode cQ_endWords 71 = .ok (.istore 8, 2) := by decide +kernel
theorem dQ_endWords_73 : decode cQ_endWords 73 = .ok (.lload 5, 2) := by decide +kernel
theorem dQ_endWords_75 : decode cQ_endWords 75 = .ok (.aload_n 0, 1) := by decide +kernel
theorem dQ_endWords_76 : decode cQ_endWords 76 = .ok (.getfield 15, 3) := by decide +kernel
theorem dQ_endWords_79 : decode cQ_endWords 79 = .ok (.iload_n 2, 1) := by decide +kernel
theorem dQ_endWords_80 : decode cQ_endWords 80 = .ok (.iload_n 3, 1) := by decide +kernel
theorem dQ_endWords_81 : decode cQ_endWords 81 = .ok (.iload 7, 2) := by decide +kernel
theorem dQ_endWords_83 : decode cQ_endWords 83 = .ok (.invokevirtual 121, 3) := by decide +kernel
theorem dQ_endWords_86 : decode cQ_endWords 86 = .ok (.invokestatic 88, 3) := by decide +kernel
theorem dQ_endWords_89 : decode cQ_endWords 89 = .ok (.iload 7, 2) := by decide +kernel
theorem dQ_endWords_91 : decode cQ_endWords 91 = .ok (.invokestatic 126, 3) := by decide +kernel
theorem dQ_endWords_94 : decode cQ_endWords 94 = .ok (.lstore 9, 2) := by decide +kernel
theorem dQ_endWords_96 : decode cQ_endWords 96 = .ok (.aload_n 0, 1) := by decide +kernel
theorem dQ_endWords_97 : decode cQ_endWords 97 = .ok (.getfield 29, 3) := by decide +kernel
theorem dQ_endWords_100 : decode cQ_endWords 100 = .ok (.iload 8, 2) := by decide +kernel
theorem dQ_endWords_102 : decode cQ_endWords 102 = .ok (.aload_n 0, 1) := by decide +kernel
theorem dQ_endWords_103 : decode cQ_endWords 103 = .ok (.getfield 29, 3) := by decide +kernel
theorem dQ_endWords_106 : decode cQ_endWords 106 = .ok (.iload 8, 2) := by decide +kernel
theorem dQ_endWords_108 : decode cQ_endWords 108 = .ok (.laload, 1) := by decide +kernel
theorem dQ_endWords_109 : decode cQ_endWords 109 = .ok (.lload 9, 2) := by decide +kernel
theorem dQ_endWords_111 : decode cQ_endWords 111 = .ok (.invokestatic 96, 3) := by decide +kernel
theorem dQ_endWords_114 : decode cQ_endWords 114 = .ok (.lastore, 1) := by decide +kernel
theorem dQ_endWords_115 : decode cQ_endWords 115 = .ok (.iinc 7 1, 3) := by decide +kernel
theorem dQ_endWords_118 : decode cQ_endWords 118 = .ok (.goto (-82), 3) := by decide +kernel
theorem dQ_endWords_121 : decode cQ_endWords 121 = .ok (.iinc 4 1, 3) := by decide +kernel
theorem dQ_endWords_124 : decode cQ_endWords 124 = .ok (.goto (-113), 3) := by decide +kernel
theorem dQ_endWords_127 : decode cQ_endWords 127 = .ok (.return_, 1) := by decide +kernel
theorem dQ_measure_0 : decode cQ_measure 0 = .ok (.iconst 0, 1) := by decide +kernel
theorem dQ_measure_1 : decode cQ_measure 1 = .ok (.istore_n 2, 1) := by decide +kernel
theorem dQ_measure_2 : decode cQ_measure 2 = .ok (.ldc2_w 41, 3) := by decide +kernel
theorem dQ_measure_5 : decode cQ_measure 5 = .ok (.lstore_n 3, 1) := by decide +kernel
theorem dQ_measure_6 : decode cQ_measure 6 = .ok (.iconst 0, 1) := by decide +kernel
theorem dQ_measure_7 : decode cQ_measure 7 = .ok (.istore 5, 2) := by decide +kernel
theorem dQ_measure_9 : decode cQ_measure 9 = .ok (.iload 5, 2) := by decide +kernel
theorem dQ_measure_11 : decode cQ_measure 11 = .ok (.aload_n 0, 1) := by decide +kernel
theorem dQ_measure_12 : decode cQ_measure 12 = .ok (.getfield 25, 3) := by decide +kernel
theorem dQ_measure_15 : decode cQ_measure 15 = .ok (.arraylength, 1) := by decide +kernel
theorem dQ_measure_16 : decode cQ_measure 16 = .ok (.if_icmp .ge 38, 3) := by decide +kernel
theorem dQ_measure_19 : decode cQ_measure 19 = .ok (.aload_n 0, 1) := by decide +kernel
theorem dQ_measure_20 : decode cQ_measure 20 = .ok (.getfield 25, 3) := by decide +kernel
theorem dQ_measure_23 : decode cQ_measure 23 = .ok (.iload 5, 2) := by decide +kernel
theorem dQ_measure_25 : decode cQ_measure 25 = .ok (.laload, 1) := by decide +kernel
theorem dQ_measure_26 : decode cQ_measure 26 = .ok (.ldc2_w 41, 3) := by decide +kernel
theorem dQ_measure_29 : decode cQ_measure 29 = .ok (.lcmp, 1) := by decide +kernel
theorem dQ_measure_30 : decode cQ_measure 30 = .ok (.ifCond .eq 18, 3) := by decide +kernel
theorem dQ_measure_33 : decode cQ_measure 33 = .ok (.iinc 2 1, 3) := by decide +kernel
theorem dQ_measure_36 : decode cQ_measure 36 = .ok (.lload_n 3, 1) := by decide +kernel
theorem dQ_measure_37 : decode cQ_measure 37 = .ok (.aload_n 0, 1) := by decide +kernel
theorem dQ_measure_38 : decode cQ_measure 38 = .ok (.getfield 25, 3) := by decide +kernel
theorem dQ_measure_41 : decode cQ_measure 41 = .ok (.iload 5, 2) := by decide +kernel
theorem dQ_measure_43 : decode cQ_measure 43 = .ok (.laload, 1) := by decide +kernel
theorem dQ_measure_44 : decode cQ_measure 44 = .ok (.invokestatic 96, 3) := by decide +kernel
theorem dQ_measure_47 : decode cQ_measure 47 = .ok (.lstore_n 3, 1) := by decide +kernel
theorem dQ_measure_48 : decode cQ_measure 48 = .ok (.iinc 5 1, 3) := by decide +kernel
theorem dQ_measure_51 : decode cQ_measure 51 = .ok (.goto (-42), 3) := by decide +kernel
theorem dQ_measure_54 : decode cQ_measure 54 = .ok (.aload_n 0, 1) := by decide +kernel
theorem dQ_measure_55 : decode cQ_measure 55 = .ok (.getfield 32, 3) := by decide +kernel
theorem dQ_measure_58 : decode cQ_measure 58 = .ok (.iload_n 1, 1) := by decide +kernel
theorem dQ_measure_59 : decode cQ_measure 59 = .ok (.iload_n 2, 1) := by decide +kernel
theorem dQ_measure_60 : decode cQ_measure 60 = .ok (.iastore, 1) := by decide +kernel
theorem dQ_measure_61 : decode cQ_measure 61 = .ok (.aload_n 0, 1) := by decide +kernel
theorem dQ_measure_62 : decode cQ_measure 62 = .ok (.getfield 36, 3) := by decide +kernel
theorem dQ_measure_65 : decode cQ_measure 65 = .ok (.iload_n 1, 1) := by decide +kernel
theorem dQ_measure_66 : decode cQ_measure 66 = .ok (.lload_n 3, 1) := by decide +kernel
theorem dQ_measure_67 : decode cQ_measure 67 = .ok (.lastore, 1) := by decide +kernel
theorem dQ_measure_68 : decode cQ_measure 68 = .ok (.return_, 1) := by decide +kernel
theorem dQ_endPath_0 : decode cQ_endPath 0 = .ok (.aload_n 0, 1) := by decide +kernel
theorem dQ_endPath_1 : decode cQ_endPath 1 = .ok (.ldc2_w 41, 3) := by decide +kernel
theorem dQ_endPath_4 : decode cQ_endPath 4 = .ok (.putfield 43, 3) := by decide +kernel
theorem dQ_endPath_7 : decode cQ_endPath 7 = .ok (.iconst 0, 1) := by decide +kernel
theorem dQ_endPath_8 : decode cQ_endPath 8 = .ok (.istore_n 1, 1) := by decide +kernel
theorem dQ_endPath_9 : decode cQ_endPath 9 = .ok (.iload_n 1, 1) := by decide +kernel
theorem dQ_endPath_10 : decode cQ_endPath 10 = .ok (.iconst 4, 1) := by decide +kernel
theorem dQ_endPath_11 : decode cQ_endPath 11 = .ok (.if_icmp .gt 58, 3) := by decide +kernel
theorem dQ_endPath_14 : decode cQ_endPath 14 = .ok (.iconst 0, 1) := by decide +kernel
theorem dQ_endPath_15 : decode cQ_endPath 15 = .ok (.istore_n 2, 1) := by decide +kernel
theorem dQ_endPath_16 : decode cQ_endPath 16 = .ok (.iload_n 2, 1) := by decide +kernel
theorem dQ_endPath_17 : decode cQ_endPath 17 = .ok (.iconst 4, 1) := by decide +kernel
theorem dQ_endPath_18 : decode cQ_endPath 18 = .ok (.if_icmp .ge 45, 3) := by decide +kernel
theorem dQ_endPath_21 : decode cQ_endPath 21 = .ok (.aload_n 0, 1) := by decide +kernel
theorem dQ_endPath_22 : decode cQ_endPath 22 = .ok (.getfield 29, 3) := by decide +kernel
theorem dQ_endPath_25 : decode cQ_endPath 25 = .ok (.iload_n 1, 1) := by decide +kernel
theorem dQ_endPath_26 : decode cQ_endPath 26 = .ok (.iload_n 2, 1) := by decide +kernel
theorem dQ_endPath_27 : decode cQ_endPath 27 = .ok (.invokestatic 53, 3) := by decide +kernel
theorem dQ_endPath_30 : decode cQ_endPath 30 = .ok (.laload, 1) := by decide +kernel
theorem dQ_endPath_31 : decode cQ_endPath 31 = .ok (.aload_n 0, 1) := by decide +kernel
theorem dQ_endPath_32 : decode cQ_endPath 32 = .ok (.getfield 15, 3) := by decide +kernel
theorem dQ_endPath_35 : decode cQ_endPath 35 = .ok (.iload_n 1, 1) := by decide +kernel
theorem dQ_endPath_36 : decode cQ_endPath 36 = .ok (.iload_n 2, 1) := by decide +kernel
theorem dQ_endPath_37 : decode cQ_endPath 37 = .ok (.iconst 4, 1) := by decide +kernel
theorem dQ_endPath_38 : decode cQ_endPath 38 = .ok (.invokevirtual 121, 3) := by decide +kernel
theorem dQ_endPath_41 : decode cQ_endPath 41 = .ok (.invokestatic 88, 3) := by decide +kernel
theorem dQ_endPath_44 : decode cQ_endPath 44 = .ok (.lstore_n 3, 1) := by decide +kernel
theorem dQ_endPath_45 : decode cQ_endPath 45 = .ok (.aload_n 0, 1) := by decide +kernel
theorem dQ_endPath_46 : decode cQ_endPath 46 = .ok (.aload_n 0, 1) := by decide +kernel
theorem dQ_endPath_47 : decode cQ_endPath 47 = .ok (.getfield 43, 3) := by decide +kernel
theorem dQ_endPath_50 : decode cQ_endPath 50 = .ok (.lload_n 3, 1) := by decide +kernel
theorem dQ_endPath_51 : decode cQ_endPath 51 = .ok (.invokestatic 96, 3) := by decide +kernel
theorem dQ_endPath_54 : decode cQ_endPath 54 = .ok (.putfield 43, 3) := by decide +kernel
theorem dQ_endPath_57 : decode cQ_endPath 57 = .ok (.iinc 2 1, 3) := by decide +kernel
theorem dQ_endPath_60 : decode cQ_endPath 60 = .ok (.goto (-44), 3) := by decide +kernel
theorem dQ_endPath_63 : decode cQ_endPath 63 = .ok (.iinc 1 1, 3) := by decide +kernel
theorem dQ_endPath_66 : decode cQ_endPath 66 = .ok (.goto (-57), 3) := by decide +kernel
theorem dQ_endPath_69 : decode cQ_endPath 69 = .ok (.return_, 1) := by decide +kernel
theorem dQ_context_0 : decode cQ_context 0 = .ok (.iload_n 0, 1) := by decide +kernel
theorem dQ_context_1 : decode cQ_context 1 = .ok (.iconst 5, 1) := by decide +kernel
theorem dQ_context_2 : decode cQ_context 2 = .ok (.imul, 1) := by decide +kernel
theorem dQ_context_3 : decode cQ_context 3 = .ok (.iload_n 1, 1) := by decide +kernel
theorem dQ_context_4 : decode cQ_context 4 = .ok (.iadd, 1) := by decide +kernel
theorem dQ_context_5 : decode cQ_context 5 = .ok (.ireturn, 1) := by decide +kernel
theorem dQ_place_0 : decode cQ_place 0 = .ok (.iload_n 0, 1) := by decide +kernel
theorem dQ_place_1 : decode cQ_place 1 = .ok (.bipush 25, 2) := by decide +kernel
theorem dQ_place_3 : decode cQ_place 3 = .ok (.imul, 1) := by decide +kernel
theorem dQ_place_4 : decode cQ_place 4 = .ok (.iload_n 1, 1) := by decide +kernel
theorem dQ_place_5 : decode cQ_place 5 = .ok (.iadd, 1) := by decide +kernel
theorem dQ_place_6 : decode cQ_place 6 = .ok (.iconst 3, 1) := by decide +kernel
theorem dQ_place_7 : decode cQ_place 7 = .ok (.imul, 1) := by decide +kernel
theorem dQ_place_8 : decode cQ_place 8 = .ok (.iload_n 2, 1) := by decide +kernel
theorem dQ_place_9 : decode cQ_place 9 = .ok (.iadd, 1) := by decide +kernel
theorem dQ_place_10 : decode cQ_place 10 = .ok (.ireturn, 1) := by decide +kernel
theorem dJ_fillI_0 : decode cJ_fillI 0 = .ok (.iconst 0, 1) := by decide +kernel
theorem dJ_fillI_1 : decode cJ_fillI 1 = .ok (.istore_n 2, 1) := by decide +kernel
theorem dJ_fillI_2 : decode cJ_fillI 2 = .ok (.aload_n 0, 1) := by decide +kernel
theorem dJ_fillI_3 : decode cJ_fillI 3 = .ok (.arraylength, 1) := by decide +kernel
theorem dJ_fillI_4 : decode cJ_fillI 4 = .ok (.istore_n 3, 1) := by decide +kernel
theorem dJ_fillI_5 : decode cJ_fillI 5 = .ok (.iload_n 2, 1) := by decide +kernel
theorem dJ_fillI_6 : decode cJ_fillI 6 = .ok (.iload_n 3, 1) := by decide +kernel
theorem dJ_fillI_7 : decode cJ_fillI 7 = .ok (.if_icmp .ge 13, 3) := by decide +kernel
theorem dJ_fillI_10 : decode cJ_fillI 10 = .ok (.aload_n 0, 1) := by decide +kernel
theorem dJ_fillI_11 : decode cJ_fillI 11 = .ok (.iload_n 2, 1) := by decide +kernel
theorem dJ_fillI_12 : decode cJ_fillI 12 = .ok (.iload_n 1, 1) := by decide +kernel
theorem dJ_fillI_13 : decode cJ_fillI 13 = .ok (.iastore, 1) := by decide +kernel
theorem dJ_fillI_14 : decode cJ_fillI 14 = .ok (.iinc 2 1, 3) := by decide +kernel
theorem dJ_fillI_17 : decode cJ_fillI 17 = .ok (.goto (-12), 3) := by decide +kernel
theorem dJ_fillI_20 : decode cJ_fillI 20 = .ok (.return_, 1) := by decide +kernel
theorem dJ_fillL_0 : decode cJ_fillL 0 = .ok (.iconst 0, 1) := by decide +kernel
theorem dJ_fillL_1 : decode cJ_fillL 1 = .ok (.istore_n 3, 1) := by decide +kernel
theorem dJ_fillL_2 : decode cJ_fillL 2 = .ok (.aload_n 0, 1) := by decide +kernel
theorem dJ_fillL_3 : decode cJ_fillL 3 = .ok (.arraylength, 1) := by decide +kernel
theorem dJ_fillL_4 : decode cJ_fillL 4 = .ok (.istore 4, 2) := by decide +kernel
theorem dJ_fillL_6 : decode cJ_fillL 6 = .ok (.iload_n 3, 1) := by decide +kernel
theorem dJ_fillL_7 : decode cJ_fillL 7 = .ok (.iload 4, 2) := by decide +kernel
theorem dJ_fillL_9 : decode cJ_fillL 9 = .ok (.if_icmp .ge 13, 3) := by decide +kernel
theorem dJ_fillL_12 : decode cJ_fillL 12 = .ok (.aload_n 0, 1) := by decide +kernel
theorem dJ_fillL_13 : decode cJ_fillL 13 = .ok (.iload_n 3, 1) := by decide +kernel
theorem dJ_fillL_14 : decode cJ_fillL 14 = .ok (.lload_n 1, 1) := by decide +kernel
theorem dJ_fillL_15 : decode cJ_fillL 15 = .ok (.lastore, 1) := by decide +kernel
theorem dJ_fillL_16 : decode cJ_fillL 16 = .ok (.iinc 3 1, 3) := by decide +kernel
theorem dJ_fillL_19 : decode cJ_fillL 19 = .ok (.goto (-13), 3) := by decide +kernel
theorem dJ_fillL_22 : decode cJ_fillL 22 = .ok (.return_, 1) := by decide +kernel
end
section
theorem dM_init_0 : decode cM_init 0 = .ok (.aload_n 0, 1) := by decide +kernel
theorem dM_init_1 : decode cM_init 1 = .ok (.invokespecial 1, 3) := by decide +kernel
theorem dM_init_4 : decode cM_init 4 = .ok (.aload_n 0, 1) := by decide +kernel
theorem dM_init_5 : decode cM_init 5 = .ok (.sipush 155, 3) := by decide +kernel
theorem dM_init_8 : decode cM_init 8 = .ok (.newarray .boolean, 2) := by decide +kernel
theorem dM_init_10 : decode cM_init 10 = .ok (.putfield 7, 3) := by decide +kernel
theorem dM_init_13 : decode cM_init 13 = .ok (.aload_n 0, 1) := by decide +kernel
theorem dM_init_14 : decode cM_init 14 = .ok (.sipush 155, 3) := by decide +kernel
theorem dM_init_17 : decode cM_init 17 = .ok (.newarray .int, 2) := by decide +kernel
theorem dM_init_19 : decode cM_init 19 = .ok (.putfield 13, 3) := by decide +kernel
theorem dM_init_22 : decode cM_init 22 = .ok (.aload_n 0, 1) := by decide +kernel
theorem dM_init_23 : decode cM_init 23 = .ok (.sipush 155, 3) := by decide +kernel
theorem dM_init_26 : decode cM_init 26 = .ok (.newarray .int, 2) := by decide +kernel
theorem dM_init_28 : decode cM_init 28 = .ok (.putfield 17, 3) := by decide +kernel
theorem dM_init_31 : decode cM_init 31 = .ok (.aload_n 0, 1) := by decide +kernel
theorem dM_init_32 : decode cM_init 32 = .ok (.bipush 8, 2) := by decide +kernel
theorem dM_init_34 : decode cM_init 34 = .ok (.newarray .int, 2) := by decide +kernel
theorem dM_init_36 : decode cM_init 36 = .ok (.putfield 20, 3) := by decide +kernel
theorem dM_init_39 : decode cM_init 39 = .ok (.aload_n 0, 1) := by decide +kernel
theorem dM_init_40 : decode cM_init 40 = .ok (.bipush 8, 2) := by decide +kernel
theorem dM_init_42 : decode cM_init 42 = .ok (.newarray .int, 2) := by decide +kernel
theorem dM_init_44 : decode cM_init 44 = .ok (.putfield 23, 3) := by decide +kernel
theorem dM_init_47 : decode cM_init 47 = .ok (.aload_n 0, 1) := by decide +kernel
theorem dM_init_48 : decode cM_init 48 = .ok (.bipush 24, 2) := by decide +kernel
theorem dM_init_50 : decode cM_init 50 = .ok (.newarray .int, 2) := by decide +kernel
theorem dM_init_52 : decode cM_init 52 = .ok (.putfield 26, 3) := by decide +kernel
theorem dM_init_55 : decode cM_init 55 = .ok (.aload_n 0, 1) := by decide +kernel
theorem dM_init_56 : decode cM_init 56 = .ok (.iconst 3, 1) := by decide +kernel
theorem dM_init_57 : decode cM_init 57 = .ok (.newarray .int, 2) := by decide +kernel
theorem dM_init_59 : decode cM_init 59 = .ok (.putfield 29, 3) := by decide +kernel
theorem dM_init_62 : decode cM_init 62 = .ok (.aload_n 0, 1) := by decide +kernel
theorem dM_init_63 : decode cM_init 63 = .ok (.iconst 3, 1) := by decide +kernel
theorem dM_init_64 : decode cM_init 64 = .ok (.newarray .int, 2) := by decide +kernel
theorem dM_init_66 : decode cM_init 66 = .ok (.putfield 32, 3) := by decide +kernel
theorem dM_init_69 : decode cM_init 69 = .ok (.aload_n 0, 1) := by decide +kernel
theorem dM_init_70 : decode cM_init 70 = .ok (.sipush 180, 3) := by decide +kernel
theorem dM_init_73 : decode cM_init 73 = .ok (.newarray .int, 2) := by decide +kernel
theorem dM_init_75 : decode cM_init 75 = .ok (.putfield 35, 3) := by decide +kernel
theorem dM_init_78 : decode cM_init 78 = .ok (.aload_n 0, 1) := by decide +kernel
theorem dM_init_79 : decode cM_init 79 = .ok (.sipush 1800, 3) := by decide +kernel
theorem dM_init_82 : decode cM_init 82 = .ok (.newarray .int, 2) := by decide +kernel
theorem dM_init_84 : decode cM_init 84 = .ok (.putfield 38, 3) := by decide +kernel
theorem dM_init_87 : decode cM_init 87 = .ok (.aload_n 0, 1) := by decide +kernel
theorem dM_init_88 : decode cM_init 88 = .ok (.sipush 1800, 3) := by decide +kernel
theorem dM_init_91 : decode cM_init 91 = .ok (.newarray .int, 2) := by decide +kernel
theorem dM_init_93 : decode cM_init 93 = .ok (.putfield 41, 3) := by decide +kernel
theorem dM_init_96 : decode cM_init 96 = .ok (.aload_n 0, 1) := by decide +kernel
theorem dM_init_97 : decode cM_init 97 = .ok (.sipush 1800, 3) := by decide +kernel
theorem dM_init_100 : decode cM_init 100 = .ok (.newarray .int, 2) := by decide +kernel
theorem dM_init_102 : decode cM_init 102 = .ok (.putfield 44, 3) := by decide +kernel
theorem dM_init_105 : decode cM_init 105 = .ok (.aload_n 0, 1) := by decide +kernel
theorem dM_init_106 : decode cM_init 106 = .ok (.sipush 1800, 3) := by decide +kernel
theorem dM_init_109 : decode cM_init 109 = .ok (.newarray .int, 2) := by decide +kernel
theorem dM_init_111 : decode cM_init 111 = .ok (.putfield 47, 3) := by decide +kernel
theorem dM_init_114 : decode cM_init 114 = .ok (.aload_n 0, 1) := by decide +kernel
theorem dM_init_115 : decode cM_init 115 = .ok (.sipush 1800, 3) := by decide +kernel
theorem dM_init_118 : decode cM_init 118 = .ok (.newarray .int, 2) := by decide +kernel
theorem dM_init_120 : decode cM_init 120 = .ok (.putfield 50, 3) := by decide +kernel
theorem dM_init_123 : decode cM_init 123 = .ok (.aload_n 0, 1) := by decide +kernel
theorem dM_init_124 : decode cM_init 124 = .ok (.sipush 1800, 3) := by decide +kernel
theorem dM_init_127 : decode cM_init 127 = .ok (.newarray .int, 2) := by decide +kernel
theorem dM_init_129 : decode cM_init 129 = .ok (.putfield 53, 3) := by decide +kernel
theorem dM_init_132 : decode cM_init 132 = .ok (.return_, 1) := by decide +kernel
theorem dM_up_0 : decode cM_up 0 = .ok (.iload_n 0, 1) := by decide +kernel
theorem dM_up_1 : decode cM_up 1 = .ok (.ifCond .lt 12, 3) := by decide +kernel
theorem dM_up_4 : decode cM_up 4 = .ok (.iload_n 0, 1) := by decide +kernel
theorem dM_up_5 : decode cM_up 5 = .ok (.iload_n 1, 1) := by decide +kernel
theorem dM_up_6 : decode cM_up 6 = .ok (.if_icmp .gt 7, 3) := by decide +kernel
theorem dM_up_9 : decode cM_up 9 = .ok (.iconst 1, 1) := by decide +kernel
theorem dM_up_10 : decode cM_up 10 = .ok (.goto 4, 3) := by decide +kernel
theorem dM_up_13 : decode cM_up 13 = .ok (.iconst 0, 1) := by decide +kernel
theorem dM_up_14 : decode cM_up 14 = .ok (.ireturn, 1) := by decide +kernel
theorem dM_begins_0 : decode cM_begins 0 = .ok (.aload_n 0, 1) := by decide +kernel
theorem dM_begins_1 : decode cM_begins 1 = .ok (.getfield 23, 3) := by decide +kernel
theorem dM_begins_4 : decode cM_begins 4 = .ok (.iload_n 1, 1) := by decide +kernel
theorem dM_begins_5 : decode cM_begins 5 = .ok (.iaload, 1) := by decide +kernel
theorem dM_begins_6 : decode cM_begins 6 = .ok (.iload_n 3, 1) := by decide +kernel
theorem dM_begins_7 : decode cM_begins 7 = .ok (.if_icmp .lt 17, 3) := by decide +kernel
theorem dM_begins_10 : decode cM_begins 10 = .ok (.aload_n 0, 1) := by decide +kernel
theorem dM_begins_11 : decode cM_begins 11 = .ok (.getfield 23, 3) := by decide +kernel
theorem dM_begins_14 : decode cM_begins 14 = .ok (.iload_n 2, 1) := by decide +kernel
theorem dM_begins_15 : decode cM_begins 15 = .ok (.iaload, 1) := by decide +kernel
theorem dM_begins_16 : decode cM_begins 16 = .ok (.iload_n 3, 1) := by decide +kernel
theorem dM_begins_17 : decode cM_begins 17 = .ok (.if_icmp .lt 7, 3) := by decide +kernel
theorem dM_begins_20 : decode cM_begins 20 = .ok (.iconst 1, 1) := by decide +kernel
theorem dM_begins_21 : decode cM_begins 21 = .ok (.goto 4, 3) := by decide +kernel
theorem dM_begins_24 : decode cM_begins 24 = .ok (.iconst 0, 1) := by decide +kernel
theorem dM_begins_25 : decode cM_begins 25 = .ok (.istore 4, 2) := by decide +kernel
theorem dM_begins_27 : decode cM_begins 27 = .ok (.iconst 0, 1) := by decide +kernel
theorem dM_begins_28 : decode cM_begins 28 = .ok (.istore 5, 2) := by decide +kernel
theorem dM_begins_30 : decode cM_begins 30 = .ok (.iload 5, 2) := by decide +kernel
theorem dM_begins_32 : decode cM_begins 32 = .ok (.iload_n 3, 1) := by decide +kernel
theorem dM_begins_33 : decode cM_begins 33 = .ok (.if_icmp .ge 46, 3) := by decide +kernel
theorem dM_begins_36 : decode cM_begins 36 = .ok (.iload 4, 2) := by decide +kernel
theorem dM_begins_38 : decode cM_begins 38 = .ok (.ifCond .eq 41, 3) := by decide +kernel
theorem dM_begins_41 : decode cM_begins 41 = .ok (.aload_n 0, 1) := by decide +kernel
theorem dM_begins_42 : decode cM_begins 42 = .ok (.getfield 26, 3) := by decide +kernel
theorem dM_begins_45 : decode cM_begins 45 = .ok (.iconst 3, 1) := by decide +kernel
theorem dM_begins_46 : decode cM_begins 46 = .ok (.iload_n 1, 1) := by decide +kernel
theorem dM_begins_47 : decode cM_begins 47 = .ok (.imul, 1) := by decide +kernel
theorem dM_begins_48 : decode cM_begins 48 = .ok (.iload 5, 2) := by decide +kernel
theorem dM_begins_50 : decode cM_begins 50 = .ok (.iadd, 1) := by decide +kernel
theorem dM_begins_51 : decode cM_begins 51 = .ok (.iaload, 1) := by decide +kernel
theorem dM_begins_52 : decode cM_begins 52 = .ok (.aload_n 0, 1) := by decide +kernel
theorem dM_begins_53 : decode cM_begins 53 = .ok (.getfield 26, 3) := by decide +kernel
theorem dM_begins_56 : decode cM_begins 56 = .ok (.iconst 3, 1) := by decide +kernel
theorem dM_begins_57 : decode cM_begins 57 = .ok (.iload_n 2, 1) := by decide +kernel
theorem dM_begins_58 : decode cM_begins 58 = .ok (.imul, 1) := by decide +kernel
theorem dM_begins_59 : decode cM_begins 59 = .ok (.iload 5, 2) := by decide +kernel
theorem dM_begins_61 : decode cM_begins 61 = .ok (.iadd, 1) := by decide +kernel
theorem dM_begins_62 : decode cM_begins 62 = .ok (.iaload, 1) := by decide +kernel
theorem dM_begins_63 : decode cM_begins 63 = .ok (.if_icmp .ne 7, 3) := by decide +kernel
theorem dM_begins_66 : decode cM_begins 66 = .ok (.iconst 1, 1) := by decide +kernel
theorem dM_begins_67 : decode cM_begins 67 = .ok (.goto 4, 3) := by decide +kernel
theorem dM_begins_70 : decode cM_begins 70 = .ok (.iconst 0, 1) := by decide +kernel
theorem dM_begins_71 : decode cM_begins 71 = .ok (.istore 4, 2) := by decide +kernel
theorem dM_begins_73 : decode cM_begins 73 = .ok (.iinc 5 1, 3) := by decide +kernel
theorem dM_begins_76 : decode cM_begins 76 = .ok (.goto (-46), 3) := by decide +kernel
theorem dM_begins_79 : decode cM_begins 79 = .ok (.iload 4, 2) := by decide +kernel
theorem dM_begins_81 : decode cM_begins 81 = .ok (.ireturn, 1) := by decide +kernel
theorem dM_fresh_0 : decode cM_fresh 0 = .ok (.iconst 1, 1) := by decide +kernel
theorem dM_fresh_1 : decode cM_fresh 1 = .ok (.istore_n 3, 1) := by decide +kernel
theorem dM_fresh_2 : decode cM_fresh 2 = .ok (.iconst 0, 1) := by decide +kernel
theorem dM_fresh_3 : decode cM_fresh 3 = .ok (.istore 4, 2) := by decide +kernel
theorem dM_fresh_5 : decode cM_fresh 5 = .ok (.iload 4, 2) := by decide +kernel
theorem dM_fresh_7 : decode cM_fresh 7 = .ok (.iload_n 1, 1) := by decide +kernel
theorem dM_fresh_8 : decode cM_fresh 8 = .ok (.if_icmp .ge 30, 3) := by decide +kernel
theorem dM_fresh_11 : decode cM_fresh 11 = .ok (.iload_n 3, 1) := by decide +kernel
theorem dM_fresh_12 : decode cM_fresh 12 = .ok (.ifCond .eq 18, 3) := by decide +kernel
theorem dM_fresh_15 : decode cM_fresh 15 = .ok (.aload_n 0, 1) := by decide +kernel
theorem dM_fresh_16 : decode cM_fresh 16 = .ok (.iload 4, 2) := by decide +kernel
theorem dM_fresh_18 : decode cM_fresh 18 = .ok (.iload_n 1, 1) := by decide +kernel
theorem dM_fresh_19 : decode cM_fresh 19 = .ok (.iload_n 2, 1) := by decide +kernel
theorem dM_fresh_20 : decode cM_fresh 20 = .ok (.invokevirtual 56, 3) := by decide +kernel
theorem dM_fresh_23 : decode cM_fresh 23 = .ok (.ifCond .ne 7, 3) := by decide +kernel
theorem dM_fresh_26 : decode cM_fresh 26 = .ok (.iconst 1, 1) := by decide +kernel
theorem dM_fresh_27 : decode cM_fresh 27 = .ok (.goto 4, 3) := by decide +kernel
theorem dM_fresh_30 : decode cM_fresh 30 = .ok (.iconst 0, 1) := by decide +kernel
theorem dM_fresh_31 : decode cM_fresh 31 = .ok (.istore_n 3, 1) := by decide +kernel
theorem dM_fresh_32 : decode cM_fresh 32 = .ok (.iinc 4 1, 3) := by decide +kernel
theorem dM_fresh_35 : decode cM_fresh 35 = .ok (.goto (-30), 3) := by decide +kernel
theorem dM_fresh_38 : decode cM_fresh 38 = .ok (.iload_n 3, 1) := by decide +kernel
theorem dM_fresh_39 : decode cM_fresh 39 = .ok (.ireturn, 1) := by decide +kernel
theorem dM_nodes_0 : decode cM_nodes 0 = .ok (.iconst 0, 1) := by decide +kernel
theorem dM_nodes_1 : decode cM_nodes 1 = .ok (.istore_n 1, 1) := by decide +kernel
theorem dM_nodes_2 : decode cM_nodes 2 = .ok (.iconst 0, 1) := by decide +kernel
theorem dM_nodes_3 : decode cM_nodes 3 = .ok (.istore_n 2, 1) := by decide +kernel
theorem dM_nodes_4 : decode cM_nodes 4 = .ok (.iload_n 2, 1) := by decide +kernel
theorem dM_nodes_5 : decode cM_nodes 5 = .ok (.aload_n 0, 1) := by decide +kernel
theorem dM_nodes_6 : decode cM_nodes 6 = .ok (.getfield 60, 3) := by decide +kernel
theorem dM_nodes_9 : decode cM_nodes 9 = .ok (.if_icmp .ge 44, 3) := by decide +kernel
theorem dM_nodes_12 : decode cM_nodes 12 = .ok (.iconst 1, 1) := by decide +kernel
theorem dM_nodes_13 : decode cM_nodes 13 = .ok (.istore_n 3, 1) := by decide +kernel
theorem dM_nodes_14 : decode cM_nodes 14 = .ok (.iload_n 3, 1) := by decide +kernel
theorem dM_nodes_15 : decode cM_nodes 15 = .ok (.aload_n 0, 1) := by decide +kernel
theorem dM_nodes_16 : decode cM_nodes 16 = .ok (.getfield 23, 3) := by decide +kernel
theorem dM_nodes_19 : decode cM_nodes 19 = .ok (.iload_n 2, 1) := by decide +kernel
theorem dM_nodes_20 : decode cM_nodes 20 = .ok (.iaload, 1) := by decide +kernel
theorem dM_nodes_21 : decode cM_nodes 21 = .ok (.if_icmp .gt 26, 3) := by decide +kernel
theorem dM_nodes_24 : decode cM_nodes 24 = .ok (.aload_n 0, 1) := by decide +kernel
theorem dM_nodes_25 : decode cM_nodes 25 = .ok (.iload_n 2, 1) := by decide +kernel
theorem dM_nodes_26 : decode cM_nodes 26 = .ok (.iload_n 3, 1) := by decide +kernel
theorem dM_nodes_27 : decode cM_nodes 27 = .ok (.invokevirtual 64, 3) := by decide +kernel
theorem dM_nodes_30 : decode cM_nodes 30 = .ok (.ifCond .eq 9, 3) := by decide +kernel
theorem dM_nodes_33 : decode cM_nodes 33 = .ok (.iload_n 1, 1) := by decide +kernel
theorem dM_nodes_34 : decode cM_nodes 34 = .ok (.iconst 1, 1) := by decide +kernel
theorem dM_nodes_35 : decode cM_nodes 35 = .ok (.iadd, 1) := by decide +kernel
theorem dM_nodes_36 : decode cM_nodes 36 = .ok (.goto 4, 3) := by decide +kernel
theorem dM_nodes_39 : decode cM_nodes 39 = .ok (.iload_n 1, 1) := by decide +kernel
theorem dM_nodes_40 : decode cM_nodes 40 = .ok (.istore_n 1, 1) := by decide +kernel
theorem dM_nodes_41 : decode cM_nodes 41 = .ok (.iinc 3 1, 3) := by decide +kernel
theorem dM_nodes_44 : decode cM_nodes 44 = .ok (.goto (-30), 3) := by decide +kernel
theorem dM_nodes_47 : decode cM_nodes 47 = .ok (.iinc 2 1, 3) := by decide +kernel
theorem dM_nodes_50 : decode cM_nodes 50 = .ok (.goto (-46), 3) := by decide +kernel
theorem dM_nodes_53 : decode cM_nodes 53 = .ok (.iload_n 1, 1) := by decide +kernel
theorem dM_nodes_54 : decode cM_nodes 54 = .ok (.ireturn, 1) := by decide +kernel
theorem dM_say_0 : decode cM_say 0 = .ok (.iload_n 1, 1) := by decide +kernel
theorem dM_say_1 : decode cM_say 1 = .ok (.iconst 3, 1) := by decide +kernel
theorem dM_say_2 : decode cM_say 2 = .ok (.invokestatic 68, 3) := by decide +kernel
theorem dM_say_5 : decode cM_say 5 = .ok (.ifCond .eq 48, 3) := by decide +kernel
theorem dM_say_8 : decode cM_say 8 = .ok (.iload_n 2, 1) := by decide +kernel
theorem dM_say_9 : decode cM_say 9 = .ok (.iconst 3, 1) := by decide +kernel
theorem dM_say_10 : decode cM_say 10 = .ok (.invokestatic 68, 3) := by decide +kernel
theorem dM_say_13 : decode cM_say 13 = .ok (.ifCond .eq 40, 3) := by decide +kernel
theorem dM_say_16 : decode cM_say 16 = .ok (.iload_n 3, 1) := by decide +kernel
theorem dM_say_17 : decode cM_say 17 = .ok (.iconst (-1), 1) := by decide +kernel
theorem dM_say_18 : decode cM_say 18 = .ok (.if_icmp .eq 11, 3) := by decide +kernel
theorem dM_say_21 : decode cM_say 21 = .ok (.iload_n 3, 1) := by decide +kernel
theorem dM_say_22 : decode cM_say 22 = .ok (.iconst 3, 1) := by decide +kernel
theorem dM_say_23 : decode cM_say 23 = .ok (.invokestatic 68, 3) := by decide +kernel
theorem dM_say_26 : decode cM_say 26 = .ok (.ifCond .eq 27, 3) := by decide +kernel
theorem dM_say_29 : decode cM_say 29 = .ok (.iload 4, 2) := by decide +kernel
theorem dM_say_31 : decode cM_say 31 = .ok (.iconst (-1), 1) := by decide +kernel
theorem dM_say_32 : decode cM_say 32 = .ok (.if_icmp .eq 17, 3) := by decide +kernel
theorem dM_say_35 : decode cM_say 35 = .ok (.iload 4, 2) := by decide +kernel
theorem dM_say_37 : decode cM_say 37 = .ok (.iconst 3, 1) := by decide +kernel
theorem dM_say_38 : decode cM_say 38 = .ok (.invokestatic 68, 3) := by decide +kernel
theorem dM_say_41 : decode cM_say 41 = .ok (.ifCond .eq 12, 3) := by decide +kernel
theorem dM_say_44 : decode cM_say 44 = .ok (.iload_n 3, 1) := by decide +kernel
theorem dM_say_45 : decode cM_say 45 = .ok (.iconst (-1), 1) := by decide +kernel
theorem dM_say_46 : decode cM_say 46 = .ok (.if_icmp .eq 7, 3) := by decide +kernel
theorem dM_say_49 : decode cM_say 49 = .ok (.iconst 1, 1) := by decide +kernel
theorem dM_say_50 : decode cM_say 50 = .ok (.goto 4, 3) := by decide +kernel
theorem dM_say_53 : decode cM_say 53 = .ok (.iconst 0, 1) := by decide +kernel
theorem dM_say_54 : decode cM_say 54 = .ok (.istore 5, 2) := by decide +kernel
theorem dM_say_56 : decode cM_say 56 = .ok (.iload 5, 2) := by decide +kernel
theorem dM_say_58 : decode cM_say 58 = .ok (.ifCond .eq 12, 3) := by decide +kernel
theorem dM_say_61 : decode cM_say 61 = .ok (.aload_n 0, 1) := by decide +kernel
theorem dM_say_62 : decode cM_say 62 = .ok (.getfield 60, 3) := by decide +kernel
theorem dM_say_65 : decode cM_say 65 = .ok (.bipush 8, 2) := by decide +kernel
theorem dM_say_67 : decode cM_say 67 = .ok (.if_icmp .ne 5, 3) := by decide +kernel
theorem dM_say_70 : decode cM_say 70 = .ok (.iconst (-1), 1) := by decide +kernel
theorem dM_say_71 : decode cM_say 71 = .ok (.ireturn, 1) := by decide +kernel
theorem dM_say_72 : decode cM_say 72 = .ok (.aload_n 0, 1) := by decide +kernel
theorem dM_say_73 : decode cM_say 73 = .ok (.getfield 20, 3) := by decide +kernel
theorem dM_say_76 : decode cM_say 76 = .ok (.aload_n 0, 1) := by decide +kernel
theorem dM_say_77 : decode cM_say 77 = .ok (.getfield 60, 3) := by decide +kernel
theorem dM_say_80 : decode cM_say 80 = .ok (.iload_n 1, 1) := by decide +kernel
theorem dM_say_81 : decode cM_say 81 = .ok (.iastore, 1) := by decide +kernel
theorem dM_say_82 : decode cM_say 82 = .ok (.aload_n 0, 1) := by decide +kernel
theorem dM_say_83 : decode cM_say 83 = .ok (.getfield 23, 3) := by decide +kernel
theorem dM_say_86 : decode cM_say 86 = .ok (.aload_n 0, 1) := by decide +kernel
theorem dM_say_87 : decode cM_say 87 = .ok (.getfield 60, 3) := by decide +kernel
theorem dM_say_90 : decode cM_say 90 = .ok (.iload_n 3, 1) := by decide +kernel
theorem dM_say_91 : decode cM_say 91 = .ok (.iconst (-1), 1) := by decide +kernel
theorem dM_say_92 : decode cM_say 92 = .ok (.if_icmp .ne 7, 3) := by decide +kernel
theorem dM_say_95 : decode cM_say 95 = .ok (.iconst 1, 1) := by decide +kernel
theorem dM_say_96 : decode cM_say 96 = .ok (.goto 14, 3) := by decide +kernel
theorem dM_say_99 : decode cM_say 99 = .ok (.iload 4, 2) := by decide +kernel
theorem dM_say_101 : decode cM_say 101 = .ok (.iconst (-1), 1) := by decide +kernel
theorem dM_say_102 : decode cM_say 102 = .ok (.if_icmp .ne 7, 3) := by decide +kernel
theorem dM_say_105 : decode cM_say 105 = .ok (.iconst 2, 1) := by decide +kernel
theorem dM_say_106 : decode cM_say 106 = .ok (.goto 4, 3) := by decide +kernel
theorem dM_say_109 : decode cM_say 109 = .ok (.iconst 3, 1) := by decide +kernel
theorem dM_say_110 : decode cM_say 110 = .ok (.iastore, 1) := by decide +kernel
theorem dM_say_111 : decode cM_say 111 = .ok (.aload_n 0, 1) := by decide +kernel
theorem dM_say_112 : decode cM_say 112 = .ok (.getfield 26, 3) := by decide +kernel
theorem dM_say_115 : decode cM_say 115 = .ok (.iconst 3, 1) := by decide +kernel
theorem dM_say_116 : decode cM_say 116 = .ok (.aload_n 0, 1) := by decide +kernel
theorem dM_say_117 : decode cM_say 117 = .ok (.getfield 60, 3) := by decide +kernel
theorem dM_say_120 : decode cM_say 120 = .ok (.imul, 1) := by decide +kernel
theorem dM_say_121 : decode cM_say 121 = .ok (.iload_n 2, 1) := by decide +kernel
theorem dM_say_122 : decode cM_say 122 = .ok (.iastore, 1) := by decide +kernel
theorem dM_say_123 : decode cM_say 123 = .ok (.aload_n 0, 1) := by decide +kernel
theorem dM_say_124 : decode cM_say 124 = .ok (.getfield 26, 3) := by decide +kernel
theorem dM_say_127 : decode cM_say 127 = .ok (.iconst 3, 1) := by decide +kernel
theorem dM_say_128 : decode cM_say 128 = .ok (.aload_n 0, 1) := by decide +kernel
theorem dM_say_129 : decode cM_say 129 = .ok (.getfield 60, 3) := by decide +kernel
theorem dM_say_132 : decode cM_say 132 = .ok (.imul, 1) := by decide +kernel
theorem dM_say_133 : decode cM_say 133 = .ok (.iconst 1, 1) := by decide +kernel
theorem dM_say_134 : decode cM_say 134 = .ok (.iadd, 1) := by decide +kernel
theorem dM_say_135 : decode cM_say 135 = .ok (.iload_n 3, 1) := by decide +kernel
theorem dM_say_136 : decode cM_say 136 = .ok (.iastore, 1) := by decide +kernel
theorem dM_say_137 : decode cM_say 137 = .ok (.aload_n 0, 1) := by decide +kernel
theorem dM_say_138 : decode cM_say 138 = .ok (.getfield 26, 3) := by decide +kernel
theorem dM_say_141 : decode cM_say 141 = .ok (.iconst 3, 1) := by decide +kernel
theorem dM_say_142 : decode cM_say 142 = .ok (.aload_n 0, 1) := by decide +kernel
theorem dM_say_143 : decode cM_say 143 = .ok (.getfield 60, 3) := by decide +kernel
theorem dM_say_146 : decode cM_say 146 = .ok (.imul, 1) := by decide +kernel
theorem dM_say_147 : decode cM_say 147 = .ok (.iconst 2, 1) := by decide +kernel
theorem dM_say_148 : decode cM_say 148 = .ok (.iadd, 1) := by decide +kernel
theorem dM_say_149 : decode cM_say 149 = .ok (.iload 4, 2) := by decide +kernel
theorem dM_say_151 : decode cM_say 151 = .ok (.iastore, 1) := by decide +kernel
theorem dM_say_152 : decode cM_say 152 = .ok (.iconst 0, 1) := by decide +kernel
theorem dM_say_153 : decode cM_say 153 = .ok (.istore 6, 2) := by decide +kernel
theorem dM_say_155 : decode cM_say 155 = .ok (.iload 6, 2) := by decide +kernel
theorem dM_say_157 : decode cM_say 157 = .ok (.aload_n 0, 1) := by decide +kernel
theorem dM_say_158 : decode cM_say 158 = .ok (.getfield 60, 3) := by decide +kernel
theorem dM_say_161 : decode cM_say 161 = .ok (.if_icmp .ge 61, 3) := by decide +kernel
theorem dM_say_164 : decode cM_say 164 = .ok (.aload_n 0, 1) := by decide +kernel
theorem dM_say_165 : decode cM_say 165 = .ok (.getfield 20, 3) := by decide +kernel
theorem dM_say_168 : decode cM_say 168 = .ok (.iload 6, 2) := by decide +kernel
theorem dM_say_170 : decode cM_say 170 = .ok (.iaload, 1) := by decide +kernel
theorem dM_say_171 : decode cM_say 171 = .ok (.iload_n 1, 1) := by decide +kernel
theorem dM_say_172 : decode cM_say 172 = .ok (.if_icmp .ne 44, 3) := by decide +kernel
theorem dM_say_175 : decode cM_say 175 = .ok (.aload_n 0, 1) := by decide +kernel
theorem dM_say_176 : decode cM_say 176 = .ok (.getfield 23, 3) := by decide +kernel
theorem dM_say_179 : decode cM_say 179 = .ok (.iload 6, 2) := by decide +kernel
theorem dM_say_181 : decode cM_say 181 = .ok (.iaload, 1) := by decide +kernel
theorem dM_say_182 : decode cM_say 182 = .ok (.aload_n 0, 1) := by decide +kernel
theorem dM_say_183 : decode cM_say 183 = .ok (.getfield 23, 3) := by decide +kernel
theorem dM_say_186 : decode cM_say 186 = .ok (.aload_n 0, 1) := by decide +kernel
theorem dM_say_187 : decode cM_say 187 = .ok (.getfield 60, 3) := by decide +kernel
theorem dM_say_190 : decode cM_say 190 = .ok (.iaload, 1) := by decide +kernel
theorem dM_say_191 : decode cM_say 191 = .ok (.if_icmp .ne 25, 3) := by decide +kernel
theorem dM_say_194 : decode cM_say 194 = .ok (.aload_n 0, 1) := by decide +kernel
theorem dM_say_195 : decode cM_say 195 = .ok (.iload 6, 2) := by decide +kernel
theorem dM_say_197 : decode cM_say 197 = .ok (.aload_n 0, 1) := by decide +kernel
theorem dM_say_198 : decode cM_say 198 = .ok (.getfield 60, 3) := by decide +kernel
theorem dM_say_201 : decode cM_say 201 = .ok (.aload_n 0, 1) := by decide +kernel
theorem dM_say_202 : decode cM_say 202 = .ok (.getfield 23, 3) := by decide +kernel
theorem dM_say_205 : decode cM_say 205 = .ok (.iload 6, 2) := by decide +kernel
theorem dM_say_207 : decode cM_say 207 = .ok (.iaload, 1) := by decide +kernel
theorem dM_say_208 : decode cM_say 208 = .ok (.invokevirtual 56, 3) := by decide +kernel
theorem dM_say_211 : decode cM_say 211 = .ok (.ifCond .eq 5, 3) := by decide +kernel
theorem dM_say_214 : decode cM_say 214 = .ok (.iconst (-1), 1) := by decide +kernel
theorem dM_say_215 : decode cM_say 215 = .ok (.ireturn, 1) := by decide +kernel
theorem dM_say_216 : decode cM_say 216 = .ok (.iinc 6 1, 3) := by decide +kernel
theorem dM_say_219 : decode cM_say 219 = .ok (.goto (-64), 3) := by decide +kernel
theorem dM_say_222 : decode cM_say 222 = .ok (.aload_n 0, 1) := by decide +kernel
theorem dM_say_223 : decode cM_say 223 = .ok (.dup, 1) := by decide +kernel
theorem dM_say_224 : decode cM_say 224 = .ok (.getfield 60, 3) := by decide +kernel
theorem dM_say_227 : decode cM_say 227 = .ok (.iconst 1, 1) := by decide +kernel
theorem dM_say_228 : decode cM_say 228 = .ok (.iadd, 1) := by decide +kernel
theorem dM_say_229 : decode cM_say 229 = .ok (.putfield 60, 3) := by decide +kernel
theorem dM_say_232 : decode cM_say 232 = .ok (.aload_n 0, 1) := by decide +kernel
theorem dM_say_233 : decode cM_say 233 = .ok (.invokevirtual 71, 3) := by decide +kernel
theorem dM_say_236 : decode cM_say 236 = .ok (.ireturn, 1) := by decide +kernel
theorem dM_slot_0 : decode cM_slot 0 = .ok (.iload_n 2, 1) := by decide +kernel
theorem dM_slot_1 : decode cM_slot 1 = .ok (.iconst 4, 1) := by decide +kernel
theorem dM_slot_2 : decode cM_slot 2 = .ok (.invokestatic 68, 3) := by decide +kernel
theorem dM_slot_5 : decode cM_slot 5 = .ok (.ifCond .eq 42, 3) := by decide +kernel
theorem dM_slot_8 : decode cM_slot 8 = .ok (.iload_n 1, 1) := by decide +kernel
theorem dM_slot_9 : decode cM_slot 9 = .ok (.iconst (-1), 1) := by decide +kernel
theorem dM_slot_10 : decode cM_slot 10 = .ok (.if_icmp .eq 11, 3) := by decide +kernel
theorem dM_slot_13 : decode cM_slot 13 = .ok (.iload_n 1, 1) := by decide +kernel
theorem dM_slot_14 : decode cM_slot 14 = .ok (.iconst 4, 1) := by decide +kernel
theorem dM_slot_15 : decode cM_slot 15 = .ok (.invokestatic 68, 3) := by decide +kernel
theorem dM_slot_18 : decode cM_slot 18 = .ok (.ifCond .eq 29, 3) := by decide +kernel
theorem dM_slot_21 : decode cM_slot 21 = .ok (.iload_n 0, 1) := by decide +kernel
theorem dM_slot_22 : decode cM_slot 22 = .ok (.iconst (-1), 1) := by decide +kernel
theorem dM_slot_23 : decode cM_slot 23 = .ok (.if_icmp .eq 11, 3) := by decide +kernel
theorem dM_slot_26 : decode cM_slot 26 = .ok (.iload_n 0, 1) := by decide +kernel
theorem dM_slot_27 : decode cM_slot 27 = .ok (.iconst 4, 1) := by decide +kernel
theorem dM_slot_28 : decode cM_slot 28 = .ok (.invokestatic 68, 3) := by decide +kernel
theorem dM_slot_31 : decode cM_slot 31 = .ok (.ifCond .eq 16, 3) := by decide +kernel
theorem dM_slot_34 : decode cM_slot 34 = .ok (.iload_n 0, 1) := by decide +kernel
theorem dM_slot_35 : decode cM_slot 35 = .ok (.iconst (-1), 1) := by decide +kernel
theorem dM_slot_36 : decode cM_slot 36 = .ok (.if_icmp .eq 13, 3) := by decide +kernel
theorem dM_slot_39 : decode cM_slot 39 = .ok (.iload_n 1, 1) := by decide +kernel
theorem dM_slot_40 : decode cM_slot 40 = .ok (.iconst 3, 1) := by decide +kernel
theorem dM_slot_41 : decode cM_slot 41 = .ok (.invokestatic 68, 3) := by decide +kernel
theorem dM_slot_44 : decode cM_slot 44 = .ok (.ifCond .ne 5, 3) := by decide +kernel
theorem dM_slot_47 : decode cM_slot 47 = .ok (.iconst (-1), 1) := by decide +kernel
theorem dM_slot_48 : decode cM_slot 48 = .ok (.ireturn, 1) := by decide +kernel
theorem dM_slot_49 : decode cM_slot 49 = .ok (.iload_n 1, 1) := by decide +kernel
theorem dM_slot_50 : decode cM_slot 50 = .ok (.iconst (-1), 1) := by decide +kernel
theorem dM_slot_51 : decode cM_slot 51 = .ok (.if_icmp .ne 7, 3) := by decide +kernel
theorem dM_slot_54 : decode cM_slot 54 = .ok (.iload_n 2, 1) := by decide +kernel
theorem dM_slot_55 : decode cM_slot 55 = .ok (.goto 31, 3) := by decide +kernel
theorem dM_slot_58 : decode cM_slot 58 = .ok (.iload_n 0, 1) := by decide +kernel
theorem dM_slot_59 : decode cM_slot 59 = .ok (.iconst (-1), 1) := by decide +kernel
theorem dM_slot_60 : decode cM_slot 60 = .ok (.if_icmp .ne 13, 3) := by decide +kernel
theorem dM_slot_63 : decode cM_slot 63 = .ok (.iconst 5, 1) := by decide +kernel
theorem dM_slot_64 : decode cM_slot 64 = .ok (.iconst 5, 1) := by decide +kernel
theorem dM_slot_65 : decode cM_slot 65 = .ok (.iload_n 1, 1) := by decide +kernel
theorem dM_slot_66 : decode cM_slot 66 = .ok (.imul, 1) := by decide +kernel
theorem dM_slot_67 : decode cM_slot 67 = .ok (.iadd, 1) := by decide +kernel
theorem dM_slot_68 : decode cM_slot 68 = .ok (.iload_n 2, 1) := by decide +kernel
theorem dM_slot_69 : decode cM_slot 69 = .ok (.iadd, 1) := by decide +kernel
theorem dM_slot_70 : decode cM_slot 70 = .ok (.goto 16, 3) := by decide +kernel
theorem dM_slot_73 : decode cM_slot 73 = .ok (.bipush 30, 2) := by decide +kernel
theorem dM_slot_75 : decode cM_slot 75 = .ok (.bipush 25, 2) := by decide +kernel
theorem dM_slot_77 : decode cM_slot 77 = .ok (.iload_n 0, 1) := by decide +kernel
theorem dM_slot_78 : decode cM_slot 78 = .ok (.imul, 1) := by decide +kernel
theorem dM_slot_79 : decode cM_slot 79 = .ok (.iadd, 1) := by decide +kernel
theorem dM_slot_80 : decode cM_slot 80 = .ok (.iconst 5, 1) := by decide +kernel
theorem dM_slot_81 : decode cM_slot 81 = .ok (.iload_n 1, 1) := by decide +kernel
theorem dM_slot_82 : decode cM_slot 82 = .ok (.imul, 1) := by decide +kernel
theorem dM_slot_83 : decode cM_slot 83 = .ok (.iadd, 1) := by decide +kernel
theorem dM_slot_84 : decode cM_slot 84 = .ok (.iload_n 2, 1) := by decide +kernel
theorem dM_slot_85 : decode cM_slot 85 = .ok (.iadd, 1) := by decide +kernel
theorem dM_slot_86 : decode cM_slot 86 = .ok (.ireturn, 1) := by decide +kernel
theorem dM_gram_0 : decode cM_gram 0 = .ok (.iload_n 1, 1) := by decide +kernel
theorem dM_gram_1 : decode cM_gram 1 = .ok (.iload_n 2, 1) := by decide +kernel
theorem dM_gram_2 : decode cM_gram 2 = .ok (.iload_n 3, 1) := by decide +kernel
theorem dM_gram_3 : decode cM_gram 3 = .ok (.invokestatic 75, 3) := by decide +kernel
theorem dM_gram_6 : decode cM_gram 6 = .ok (.istore 6, 2) := by decide +kernel
theorem dM_gram_8 : decode cM_gram 8 = .ok (.iload 6, 2) := by decide +kernel
theorem dM_gram_10 : decode cM_gram 10 = .ok (.ifCond .lt 25, 3) := by decide +kernel
theorem dM_gram_13 : decode cM_gram 13 = .ok (.iload 4, 2) := by decide +kernel
theorem dM_gram_15 : decode cM_gram 15 = .ok (.sipush 9999, 3) := by decide +kernel
theorem dM_gram_18 : decode cM_gram 18 = .ok (.invokestatic 68, 3) := by decide +kernel
theorem dM_gram_21 : decode cM_gram 21 = .ok (.ifCond .eq 14, 3) := by decide +kernel
theorem dM_gram_24 : decode cM_gram 24 = .ok (.iload 5, 2) := by decide +kernel
theorem dM_gram_26 : decode cM_gram 26 = .ok (.sipush 9999, 3) := by decide +kernel
theorem dM_gram_29 : decode cM_gram 29 = .ok (.invokestatic 68, 3) := by decide +kernel
theorem dM_gram_32 : decode cM_gram 32 = .ok (.ifCond .ne 5, 3) := by decide +kernel
theorem dM_gram_35 : decode cM_gram 35 = .ok (.iconst 0, 1) := by decide +kernel
theorem dM_gram_36 : decode cM_gram 36 = .ok (.ireturn, 1) := by decide +kernel
theorem dM_gram_37 : decode cM_gram 37 = .ok (.aload_n 0, 1) := by decide +kernel
theorem dM_gram_38 : decode cM_gram 38 = .ok (.getfield 7, 3) := by decide +kernel
theorem dM_gram_41 : decode cM_gram 41 = .ok (.iload 6, 2) := by decide +kernel
theorem dM_gram_43 : decode cM_gram 43 = .ok (.iconst 1, 1) := by decide +kernel
theorem dM_gram_44 : decode cM_gram 44 = .ok (.bastore, 1) := by decide +kernel
theorem dM_gram_45 : decode cM_gram 45 = .ok (.aload_n 0, 1) := by decide +kernel
theorem dM_gram_46 : decode cM_gram 46 = .ok (.getfield 13, 3) := by decide +kernel
theorem dM_gram_49 : decode cM_gram 49 = .ok (.iload 6, 2) := by decide +kernel
theorem dM_gram_51 : decode cM_gram 51 = .ok (.iload 4, 2) := by decide +kernel
theorem dM_gram_53 : decode cM_gram 53 = .ok (.iastore, 1) := by decide +kernel
theorem dM_gram_54 : decode cM_gram 54 = .ok (.aload_n 0, 1) := by decide +kernel
theorem dM_gram_55 : decode cM_gram 55 = .ok (.getfield 17, 3) := by decide +kernel
theorem dM_gram_58 : decode cM_gram 58 = .ok (.iload 6, 2) := by decide +kernel
theorem dM_gram_60 : decode cM_gram 60 = .ok (.iload 5, 2) := by decide +kernel
theorem dM_gram_62 : decode cM_gram 62 = .ok (.iastore, 1) := by decide +kernel
theorem dM_gram_63 : decode cM_gram 63 = .ok (.iconst 1, 1) := by decide +kernel
theorem dM_gram_64 : decode cM_gram 64 = .ok (.ireturn, 1) := by decide +kernel
theorem dM_ungram_0 : decode cM_ungram 0 = .ok (.iload_n 1, 1) := by decide +kernel
theorem dM_ungram_1 : decode cM_ungram 1 = .ok (.iload_n 2, 1) := by decide +kernel
theorem dM_ungram_2 : decode cM_ungram 2 = .ok (.iload_n 3, 1) := by decide +kernel
theorem dM_ungram_3 : decode cM_ungram 3 = .ok (.invokestatic 75, 3) := by decide +kernel
theorem dM_ungram_6 : decode cM_ungram 6 = .ok (.istore 4, 2) := by decide +kernel
theorem dM_ungram_8 : decode cM_ungram 8 = .ok (.iload 4, 2) := by decide +kernel
theorem dM_ungram_10 : decode cM_ungram 10 = .ok (.ifCond .lt 13, 3) := by decide +kernel
theorem dM_ungram_13 : decode cM_ungram 13 = .ok (.aload_n 0, 1) := by decide +kernel
theorem dM_ungram_14 : decode cM_ungram 14 = .ok (.getfield 7, 3) := by decide +kernel
theorem dM_ungram_17 : decode cM_ungram 17 = .ok (.iload 4, 2) := by decide +kernel
theorem dM_ungram_19 : decode cM_ungram 19 = .ok (.baload, 1) := by decide +kernel
theorem dM_ungram_20 : decode cM_ungram 20 = .ok (.ifCond .ne 5, 3) := by decide +kernel
theorem dM_ungram_23 : decode cM_ungram 23 = .ok (.iconst 0, 1) := by decide +kernel
theorem dM_ungram_24 : decode cM_ungram 24 = .ok (.ireturn, 1) := by decide +kernel
theorem dM_ungram_25 : decode cM_ungram 25 = .ok (.aload_n 0, 1) := by decide +kernel
theorem dM_ungram_26 : decode cM_ungram 26 = .ok (.getfield 7, 3) := by decide +kernel
theorem dM_ungram_29 : decode cM_ungram 29 = .ok (.iload 4, 2) := by decide +kernel
theorem dM_ungram_31 : decode cM_ungram 31 = .ok (.iconst 0, 1) := by decide +kernel
theorem dM_ungram_32 : decode cM_ungram 32 = .ok (.bastore, 1) := by decide +kernel
theorem dM_ungram_33 : decode cM_ungram 33 = .ok (.iconst 1, 1) := by decide +kernel
theorem dM_ungram_34 : decode cM_ungram 34 = .ok (.ireturn, 1) := by decide +kernel
theorem dM_back_0 : decode cM_back 0 = .ok (.aload_n 0, 1) := by decide +kernel
theorem dM_back_1 : decode cM_back 1 = .ok (.getfield 7, 3) := by decide +kernel
theorem dM_back_4 : decode cM_back 4 = .ok (.iload_n 1, 1) := by decide +kernel
theorem dM_back_5 : decode cM_back 5 = .ok (.baload, 1) := by decide +kernel
theorem dM_back_6 : decode cM_back 6 = .ok (.ifCond .eq 12, 3) := by decide +kernel
theorem dM_back_9 : decode cM_back 9 = .ok (.aload_n 0, 1) := by decide +kernel
theorem dM_back_10 : decode cM_back 10 = .ok (.getfield 17, 3) := by decide +kernel
theorem dM_back_13 : decode cM_back 13 = .ok (.iload_n 1, 1) := by decide +kernel
theorem dM_back_14 : decode cM_back 14 = .ok (.iaload, 1) := by decide +kernel
theorem dM_back_15 : decode cM_back 15 = .ok (.goto 4, 3) := by decide +kernel
theorem dM_back_18 : decode cM_back 18 = .ok (.iconst 0, 1) := by decide +kernel
theorem dM_back_19 : decode cM_back 19 = .ok (.ireturn, 1) := by decide +kernel
theorem dM_afterOne_0 : decode cM_afterOne 0 = .ok (.iconst 5, 1) := by decide +kernel
theorem dM_afterOne_1 : decode cM_afterOne 1 = .ok (.iconst 5, 1) := by decide +kernel
theorem dM_afterOne_2 : decode cM_afterOne 2 = .ok (.iload_n 1, 1) := by decide +kernel
theorem dM_afterOne_3 : decode cM_afterOne 3 = .ok (.imul, 1) := by decide +kernel
theorem dM_afterOne_4 : decode cM_afterOne 4 = .ok (.iadd, 1) := by decide +kernel
theorem dM_afterOne_5 : decode cM_afterOne 5 = .ok (.iload_n 2, 1) := by decide +kernel
theorem dM_afterOne_6 : decode cM_afterOne 6 = .ok (.iadd, 1) := by decide +kernel
theorem dM_afterOne_7 : decode cM_afterOne 7 = .ok (.istore_n 3, 1) := by decide +kernel
theorem dM_afterOne_8 : decode cM_afterOne 8 = .ok (.aload_n 0, 1) := by decide +kernel
theorem dM_afterOne_9 : decode cM_afterOne 9 = .ok (.getfield 7, 3) := by decide +kernel
theorem dM_afterOne_12 : decode cM_afterOne 12 = .ok (.iload_n 3, 1) := by decide +kernel
theorem dM_afterOne_13 : decode cM_afterOne 13 = .ok (.baload, 1) := by decide +kernel
theorem dM_afterOne_14 : decode cM_afterOne 14 = .ok (.ifCond .eq 12, 3) := by decide +kernel
theorem dM_afterOne_17 : decode cM_afterOne 17 = .ok (.aload_n 0, 1) := by decide +kernel
theorem dM_afterOne_18 : decode cM_afterOne 18 = .ok (.getfield 13, 3) := by decide +kernel
theorem dM_afterOne_21 : decode cM_afterOne 21 = .ok (.iload_n 3, 1) := by decide +kernel
theorem dM_afterOne_22 : decode cM_afterOne 22 = .ok (.iaload, 1) := by decide +kernel
theorem dM_afterOne_23 : decode cM_afterOne 23 = .ok (.goto 28, 3) := by decide +kernel
theorem dM_afterOne_26 : decode cM_afterOne 26 = .ok (.aload_n 0, 1) := by decide +kernel
theorem dM_afterOne_27 : decode cM_afterOne 27 = .ok (.getfield 7, 3) := by decide +kernel
theorem dM_afterOne_30 : decode cM_afterOne 30 = .ok (.iload_n 2, 1) := by decide +kernel
theorem dM_afterOne_31 : decode cM_afterOne 31 = .ok (.baload, 1) := by decide +kernel
theorem dM_afterOne_32 : decode cM_afterOne 32 = .ok (.ifCond .eq 18, 3) := by decide +kernel
theorem dM_afterOne_35 : decode cM_afterOne 35 = .ok (.aload_n 0, 1) := by decide +kernel
theorem dM_afterOne_36 : decode cM_afterOne 36 = .ok (.iload_n 1, 1) := by decide +kernel
theorem dM_afterOne_37 : decode cM_afterOne 37 = .ok (.invokevirtual 79, 3) := by decide +kernel
theorem dM_afterOne_40 : decode cM_afterOne 40 = .ok (.aload_n 0, 1) := by decide +kernel
theorem dM_afterOne_41 : decode cM_afterOne 41 = .ok (.getfield 13, 3) := by decide +kernel
theorem dM_afterOne_44 : decode cM_afterOne 44 = .ok (.iload_n 2, 1) := by decide +kernel
theorem dM_afterOne_45 : decode cM_afterOne 45 = .ok (.iaload, 1) := by decide +kernel
theorem dM_afterOne_46 : decode cM_afterOne 46 = .ok (.iadd, 1) := by decide +kernel
theorem dM_afterOne_47 : decode cM_afterOne 47 = .ok (.goto 4, 3) := by decide +kernel
theorem dM_afterOne_50 : decode cM_afterOne 50 = .ok (.iconst (-1), 1) := by decide +kernel
theorem dM_afterOne_51 : decode cM_afterOne 51 = .ok (.ireturn, 1) := by decide +kernel
theorem dM_after_0 : decode cM_after 0 = .ok (.iload_n 3, 1) := by decide +kernel
theorem dM_after_1 : decode cM_after 1 = .ok (.iconst 4, 1) := by decide +kernel
theorem dM_after_2 : decode cM_after 2 = .ok (.invokestatic 68, 3) := by decide +kernel
theorem dM_after_5 : decode cM_after 5 = .ok (.ifCond .eq 29, 3) := by decide +kernel
theorem dM_after_8 : decode cM_after 8 = .ok (.iload_n 2, 1) := by decide +kernel
theorem dM_after_9 : decode cM_after 9 = .ok (.iconst 4, 1) := by decide +kernel
theorem dM_after_10 : decode cM_after 10 = .ok (.invokestatic 68, 3) := by decide +kernel
theorem dM_after_13 : decode cM_after 13 = .ok (.ifCond .eq 21, 3) := by decide +kernel
theorem dM_after_16 : decode cM_after 16 = .ok (.iload_n 1, 1) := by decide +kernel
theorem dM_after_17 : decode cM_after 17 = .ok (.iconst 4, 1) := by decide +kernel
theorem dM_after_18 : decode cM_after 18 = .ok (.invokestatic 68, 3) := by decide +kernel
theorem dM_after_21 : decode cM_after 21 = .ok (.ifCond .eq 13, 3) := by decide +kernel
theorem dM_after_24 : decode cM_after 24 = .ok (.iload_n 2, 1) := by decide +kernel
theorem dM_after_25 : decode cM_after 25 = .ok (.iconst 4, 1) := by decide +kernel
theorem dM_after_26 : decode cM_after 26 = .ok (.if_icmp .ne 10, 3) := by decide +kernel
theorem dM_after_29 : decode cM_after 29 = .ok (.iload_n 1, 1) := by decide +kernel
theorem dM_after_30 : decode cM_after 30 = .ok (.iconst 4, 1) := by decide +kernel
theorem dM_after_31 : decode cM_after 31 = .ok (.if_icmp .eq 5, 3) := by decide +kernel
theorem dM_after_34 : decode cM_after 34 = .ok (.iconst (-1), 1) := by decide +kernel
theorem dM_after_35 : decode cM_after 35 = .ok (.ireturn, 1) := by decide +kernel
theorem dM_after_36 : decode cM_after 36 = .ok (.bipush 30, 2) := by decide +kernel
theorem dM_after_38 : decode cM_after 38 = .ok (.bipush 25, 2) := by decide +kernel
theorem dM_after_40 : decode cM_after 40 = .ok (.iload_n 1, 1) := by decide +kernel
theorem dM_after_41 : decode cM_after 41 = .ok (.imul, 1) := by decide +kernel
theorem dM_after_42 : decode cM_after 42 = .ok (.iadd, 1) := by decide +kernel
theorem dM_after_43 : decode cM_after 43 = .ok (.iconst 5, 1) := by decide +kernel
theorem dM_after_44 : decode cM_after 44 = .ok (.iload_n 2, 1) := by decide +kernel
theorem dM_after_45 : decode cM_after 45 = .ok (.imul, 1) := by decide +kernel
theorem dM_after_46 : decode cM_after 46 = .ok (.iadd, 1) := by decide +kernel
theorem dM_after_47 : decode cM_after 47 = .ok (.iload_n 3, 1) := by decide +kernel
theorem dM_after_48 : decode cM_after 48 = .ok (.iadd, 1) := by decide +kernel
theorem dM_after_49 : decode cM_after 49 = .ok (.istore 4, 2) := by decide +kernel
theorem dM_after_51 : decode cM_after 51 = .ok (.iload_n 2, 1) := by decide +kernel
theorem dM_after_52 : decode cM_after 52 = .ok (.iconst 4, 1) := by decide +kernel
theorem dM_after_53 : decode cM_after 53 = .ok (.if_icmp .eq 21, 3) := by decide +kernel
theorem dM_after_56 : decode cM_after 56 = .ok (.aload_n 0, 1) := by decide +kernel
theorem dM_after_57 : decode cM_after 57 = .ok (.getfield 7, 3) := by decide +kernel
theorem dM_after_60 : decode cM_after 60 = .ok (.iload 4, 2) := by decide +kernel
theorem dM_after_62 : decode cM_after 62 = .ok (.baload, 1) := by decide +kernel
theorem dM_after_63 : decode cM_after 63 = .ok (.ifCond .eq 11, 3) := by decide +kernel
theorem dM_after_66 : decode cM_after 66 = .ok (.aload_n 0, 1) := by decide +kernel
theorem dM_after_67 : decode cM_after 67 = .ok (.getfield 13, 3) := by decide +kernel
theorem dM_after_70 : decode cM_after 70 = .ok (.iload 4, 2) := by decide +kernel
theorem dM_after_72 : decode cM_after 72 = .ok (.iaload, 1) := by decide +kernel
theorem dM_after_73 : decode cM_after 73 = .ok (.ireturn, 1) := by decide +kernel
theorem dM_after_74 : decode cM_after 74 = .ok (.aload_n 0, 1) := by decide +kernel
theorem dM_after_75 : decode cM_after 75 = .ok (.iload_n 2, 1) := by decide +kernel
theorem dM_after_76 : decode cM_after 76 = .ok (.iload_n 3, 1) := by decide +kernel
theorem dM_after_77 : decode cM_after 77 = .ok (.invokevirtual 83, 3) := by decide +kernel
theorem dM_after_80 : decode cM_after 80 = .ok (.istore 5, 2) := by decide +kernel
theorem dM_after_82 : decode cM_after 82 = .ok (.iload 5, 2) := by decide +kernel
theorem dM_after_84 : decode cM_after 84 = .ok (.ifCond .lt 8, 3) := by decide +kernel
theorem dM_after_87 : decode cM_after 87 = .ok (.iload_n 2, 1) := by decide +kernel
theorem dM_after_88 : decode cM_after 88 = .ok (.iconst 4, 1) := by decide +kernel
theorem dM_after_89 : decode cM_after 89 = .ok (.if_icmp .ne 8, 3) := by decide +kernel
theorem dM_after_92 : decode cM_after 92 = .ok (.iload 5, 2) := by decide +kernel
theorem dM_after_94 : decode cM_after 94 = .ok (.goto 17, 3) := by decide +kernel
theorem dM_after_97 : decode cM_after 97 = .ok (.iload 5, 2) := by decide +kernel
theorem dM_after_99 : decode cM_after 99 = .ok (.aload_n 0, 1) := by decide +kernel
theorem dM_after_100 : decode cM_after 100 = .ok (.iconst 5, 1) := by decide +kernel
theorem dM_after_101 : decode cM_after 101 = .ok (.iconst 5, 1) := by decide +kernel
theorem dM_after_102 : decode cM_after 102 = .ok (.iload_n 1, 1) := by decide +kernel
theorem dM_after_103 : decode cM_after 103 = .ok (.imul, 1) := by decide +kernel
theorem dM_after_104 : decode cM_after 104 = .ok (.iadd, 1) := by decide +kernel
theorem dM_after_105 : decode cM_after 105 = .ok (.iload_n 2, 1) := by decide +kernel
theorem dM_after_106 : decode cM_after 106 = .ok (.iadd, 1) := by decide +kernel
theorem dM_after_107 : decode cM_after 107 = .ok (.invokevirtual 79, 3) := by decide +kernel
theorem dM_after_110 : decode cM_after 110 = .ok (.iadd, 1) := by decide +kernel
theorem dM_after_111 : decode cM_after 111 = .ok (.ireturn, 1) := by decide +kernel
theorem dM_topology_0 : decode cM_topology 0 = .ok (.iload_n 1, 1) := by decide +kernel
theorem dM_topology_1 : decode cM_topology 1 = .ok (.iconst 2, 1) := by decide +kernel
theorem dM_topology_2 : decode cM_topology 2 = .ok (.invokestatic 68, 3) := by decide +kernel
theorem dM_topology_5 : decode cM_topology 5 = .ok (.ifCond .eq 23, 3) := by decide +kernel
theorem dM_topology_8 : decode cM_topology 8 = .ok (.iload_n 2, 1) := by decide +kernel
theorem dM_topology_9 : decode cM_topology 9 = .ok (.sipush 9999, 3) := by decide +kernel
theorem dM_topology_12 : decode cM_topology 12 = .ok (.invokestatic 68, 3) := by decide +kernel
theorem dM_topology_15 : decode cM_topology 15 = .ok (.ifCond .eq 13, 3) := by decide +kernel
theorem dM_topology_18 : decode cM_topology 18 = .ok (.iload_n 3, 1) := by decide +kernel
theorem dM_topology_19 : decode cM_topology 19 = .ok (.sipush 9999, 3) := by decide +kernel
theorem dM_topology_22 : decode cM_topology 22 = .ok (.invokestatic 68, 3) := by decide +kernel
theorem dM_topology_25 : decode cM_topology 25 = .ok (.ifCond .ne 5, 3) := by decide +kernel
theorem dM_topology_28 : decode cM_topology 28 = .ok (.iconst 0, 1) := by decide +kernel
theorem dM_topology_29 : decode cM_topology 29 = .ok (.ireturn, 1) := by decide +kernel
theorem dM_topology_30 : decode cM_topology 30 = .ok (.aload_n 0, 1) := by decide +kernel
theorem dM_topology_31 : decode cM_topology 31 = .ok (.getfield 29, 3) := by decide +kernel
theorem dM_topology_34 : decode cM_topology 34 = .ok (.iload_n 1, 1) := by decide +kernel
theorem dM_topology_35 : decode cM_topology 35 = .ok (.iload_n 2, 1) := by decide +kernel
theorem dM_topology_36 : decode cM_topology 36 = .ok (.iastore, 1) := by decide +kernel
theorem dM_topology_37 : decode cM_topology 37 = .ok (.aload_n 0, 1) := by decide +kernel
theorem dM_topology_38 : decode cM_topology 38 = .ok (.getfield 32, 3) := by decide +kernel
theorem dM_topology_41 : decode cM_topology 41 = .ok (.iload_n 1, 1) := by decide +kernel
theorem dM_topology_42 : decode cM_topology 42 = .ok (.iload_n 3, 1) := by decide +kernel
theorem dM_topology_43 : decode cM_topology 43 = .ok (.iastore, 1) := by decide +kernel
theorem dM_topology_44 : decode cM_topology 44 = .ok (.iconst 1, 1) := by decide +kernel
theorem dM_topology_45 : decode cM_topology 45 = .ok (.ireturn, 1) := by decide +kernel
theorem dM_frame_0 : decode cM_frame 0 = .ok (.aload_n 0, 1) := by decide +kernel
theorem dM_frame_1 : decode cM_frame 1 = .ok (.getfield 87, 3) := by decide +kernel
theorem dM_frame_4 : decode cM_frame 4 = .ok (.bipush 15, 2) := by decide +kernel
theorem dM_frame_6 : decode cM_frame 6 = .ok (.if_icmp .ne 5, 3) := by decide +kernel
theorem dM_frame_9 : decode cM_frame 9 = .ok (.iconst (-1), 1) := by decide +kernel
theorem dM_frame_10 : decode cM_frame 10 = .ok (.ireturn, 1) := by decide +kernel
theorem dM_frame_11 : decode cM_frame 11 = .ok (.iconst 0, 1) := by decide +kernel
theorem dM_frame_12 : decode cM_frame 12 = .ok (.istore_n 1, 1) := by decide +kernel
theorem dM_frame_13 : decode cM_frame 13 = .ok (.iload_n 1, 1) := by decide +kernel
theorem dM_frame_14 : decode cM_frame 14 = .ok (.bipush 12, 2) := by decide +kernel
theorem dM_frame_16 : decode cM_frame 16 = .ok (.if_icmp .ge 24, 3) := by decide +kernel
theorem dM_frame_19 : decode cM_frame 19 = .ok (.aload_n 0, 1) := by decide +kernel
theorem dM_frame_20 : decode cM_frame 20 = .ok (.getfield 35, 3) := by decide +kernel
theorem dM_frame_23 : decode cM_frame 23 = .ok (.bipush 12, 2) := by decide +kernel
theorem dM_frame_25 : decode cM_frame 25 = .ok (.aload_n 0, 1) := by decide +kernel
theorem dM_frame_26 : decode cM_frame 26 = .ok (.getfield 87, 3) := by decide +kernel
theorem dM_frame_29 : decode cM_frame 29 = .ok (.imul, 1) := by decide +kernel
theorem dM_frame_30 : decode cM_frame 30 = .ok (.iload_n 1, 1) := by decide +kernel
theorem dM_frame_31 : decode cM_frame 31 = .ok (.iadd, 1) := by decide +kernel
theorem dM_frame_32 : decode cM_frame 32 = .ok (.iconst 0, 1) := by decide +kernel
theorem dM_frame_33 : decode cM_frame 33 = .ok (.iastore, 1) := by decide +kernel
theorem dM_frame_34 : decode cM_frame 34 = .ok (.iinc 1 1, 3) := by decide +kernel
theorem dM_frame_37 : decode cM_frame 37 = .ok (.goto (-24), 3) := by decide +kernel
theorem dM_frame_40 : decode cM_frame 40 = .ok (.aload_n 0, 1) := by decide +kernel
theorem dM_frame_41 : decode cM_frame 41 = .ok (.dup, 1) := by decide +kernel
theorem dM_frame_42 : decode cM_frame 42 = .ok (.getfield 87, 3) := by decide +kernel
theorem dM_frame_45 : decode cM_frame 45 = .ok (.iconst 1, 1) := by decide +kernel
theorem dM_frame_46 : decode cM_frame 46 = .ok (.iadd, 1) := by decide +kernel
theorem dM_frame_47 : decode cM_frame 47 = .ok (.putfield 87, 3) := by decide +kernel
theorem dM_frame_50 : decode cM_frame 50 = .ok (.aload_n 0, 1) := by decide +kernel
theorem dM_frame_51 : decode cM_frame 51 = .ok (.getfield 87, 3) := by decide +kernel
theorem dM_frame_54 : decode cM_frame 54 = .ok (.ireturn, 1) := by decide +kernel
theorem dM_drop_0 : decode cM_drop 0 = .ok (.aload_n 0, 1) := by decide +kernel
theorem dM_drop_1 : decode cM_drop 1 = .ok (.getfield 87, 3) := by decide +kernel
theorem dM_drop_4 : decode cM_drop 4 = .ok (.ifCond .ne 5, 3) := by decide +kernel
theorem dM_drop_7 : decode cM_drop 7 = .ok (.iconst 0, 1) := by decide +kernel
theorem dM_drop_8 : decode cM_drop 8 = .ok (.ireturn, 1) := by decide +kernel
theorem dM_drop_9 : decode cM_drop 9 = .ok (.aload_n 0, 1) := by decide +kernel
theorem dM_drop_10 : decode cM_drop 10 = .ok (.dup, 1) := by decide +kernel
theorem dM_drop_11 : decode cM_drop 11 = .ok (.getfield 87, 3) := by decide +kernel
theorem dM_drop_14 : decode cM_drop 14 = .ok (.iconst 1, 1) := by decide +kernel
theorem dM_drop_15 : decode cM_drop 15 = .ok (.isub, 1) := by decide +kernel
theorem dM_drop_16 : decode cM_drop 16 = .ok (.putfield 87, 3) := by decide +kernel
theorem dM_drop_19 : decode cM_drop 19 = .ok (.iconst 1, 1) := by decide +kernel
theorem dM_drop_20 : decode cM_drop 20 = .ok (.ireturn, 1) := by decide +kernel
theorem dM_sound_0 : decode cM_sound 0 = .ok (.iload_n 1, 1) := by decide +kernel
theorem dM_sound_1 : decode cM_sound 1 = .ok (.ifCond .lt 38, 3) := by decide +kernel
theorem dM_sound_4 : decode cM_sound 4 = .ok (.iload_n 1, 1) := by decide +kernel
theorem dM_sound_5 : decode cM_sound 5 = .ok (.aload_n 0, 1) := by decide +kernel
theorem dM_sound_6 : decode cM_sound 6 = .ok (.getfield 87, 3) := by decide +kernel
theorem dM_sound_9 : decode cM_sound 9 = .ok (.if_icmp .ge 30, 3) := by decide +kernel
theorem dM_sound_12 : decode cM_sound 12 = .ok (.iload_n 2, 1) := by decide +kernel
theorem dM_sound_13 : decode cM_sound 13 = .ok (.iconst 3, 1) := by decide +kernel
theorem dM_sound_14 : decode cM_sound 14 = .ok (.invokestatic 68, 3) := by decide +kernel
theorem dM_sound_17 : decode cM_sound 17 = .ok (.ifCond .eq 22, 3) := by decide +kernel
theorem dM_sound_20 : decode cM_sound 20 = .ok (.iload_n 3, 1) := by decide +kernel
theorem dM_sound_21 : decode cM_sound 21 = .ok (.iconst 2, 1) := by decide +kernel
theorem dM_sound_22 : decode cM_sound 22 = .ok (.invokestatic 68, 3) := by decide +kernel
theorem dM_sound_25 : decode cM_sound 25 = .ok (.ifCond .eq 14, 3) := by decide +kernel
theorem dM_sound_28 : decode cM_sound 28 = .ok (.iload 4, 2) := by decide +kernel
theorem dM_sound_30 : decode cM_sound 30 = .ok (.sipush 9999, 3) := by decide +kernel
theorem dM_sound_33 : decode cM_sound 33 = .ok (.invokestatic 68, 3) := by decide +kernel
theorem dM_sound_36 : decode cM_sound 36 = .ok (.ifCond .ne 5, 3) := by decide +kernel
theorem dM_sound_39 : decode cM_sound 39 = .ok (.iconst 0, 1) := by decide +kernel
theorem dM_sound_40 : decode cM_sound 40 = .ok (.ireturn, 1) := by decide +kernel
theorem dM_sound_41 : decode cM_sound 41 = .ok (.aload_n 0, 1) := by decide +kernel
theorem dM_sound_42 : decode cM_sound 42 = .ok (.getfield 35, 3) := by decide +kernel
theorem dM_sound_45 : decode cM_sound 45 = .ok (.bipush 12, 2) := by decide +kernel
theorem dM_sound_47 : decode cM_sound 47 = .ok (.iload_n 1, 1) := by decide +kernel
theorem dM_sound_48 : decode cM_sound 48 = .ok (.imul, 1) := by decide +kernel
theorem dM_sound_49 : decode cM_sound 49 = .ok (.iconst 3, 1) := by decide +kernel
theorem dM_sound_50 : decode cM_sound 50 = .ok (.iload_n 2, 1) := by decide +kernel
theorem dM_sound_51 : decode cM_sound 51 = .ok (.imul, 1) := by decide +kernel
theorem dM_sound_52 : decode cM_sound 52 = .ok (.iadd, 1) := by decide +kernel
theorem dM_sound_53 : decode cM_sound 53 = .ok (.iload_n 3, 1) := by decide +kernel
theorem dM_sound_54 : decode cM_sound 54 = .ok (.iadd, 1) := by decide +kernel
theorem dM_sound_55 : decode cM_sound 55 = .ok (.iload 4, 2) := by decide +kernel
theorem dM_sound_57 : decode cM_sound 57 = .ok (.iastore, 1) := by decide +kernel
theorem dM_sound_58 : decode cM_sound 58 = .ok (.iconst 1, 1) := by decide +kernel
theorem dM_sound_59 : decode cM_sound 59 = .ok (.ireturn, 1) := by decide +kernel
theorem dM_frames_0 : decode cM_frames 0 = .ok (.aload_n 0, 1) := by decide +kernel
theorem dM_frames_1 : decode cM_frames 1 = .ok (.getfield 87, 3) := by decide +kernel
theorem dM_frames_4 : decode cM_frames 4 = .ok (.ireturn, 1) := by decide +kernel
theorem dM_come_0 : decode cM_come 0 = .ok (.sipush 225, 3) := by decide +kernel
theorem dM_come_3 : decode cM_come 3 = .ok (.iload_n 2, 1) := by decide +kernel
theorem dM_come_4 : decode cM_come 4 = .ok (.imul, 1) := by decide +kernel
theorem dM_come_5 : decode cM_come 5 = .ok (.bipush 25, 2) := by decide +kernel
theorem dM_come_7 : decode cM_come 7 = .ok (.iload_n 3, 1) := by decide +kernel
theorem dM_come_8 : decode cM_come 8 = .ok (.imul, 1) := by decide +kernel
theorem dM_come_9 : decode cM_come 9 = .ok (.iadd, 1) := by decide +kernel
theorem dM_come_10 : decode cM_come 10 = .ok (.iload 4, 2) := by decide +kernel
theorem dM_come_12 : decode cM_come 12 = .ok (.iadd, 1) := by decide +kernel
theorem dM_come_13 : decode cM_come 13 = .ok (.istore 8, 2) := by decide +kernel
theorem dM_come_15 : decode cM_come 15 = .ok (.iload 5, 2) := by decide +kernel
theorem dM_come_17 : decode cM_come 17 = .ok (.aload_n 0, 1) := by decide +kernel
theorem dM_come_18 : decode cM_come 18 = .ok (.getfield 35, 3) := by decide +kernel
theorem dM_come_21 : decode cM_come 21 = .ok (.bipush 12, 2) := by decide +kernel
theorem dM_come_23 : decode cM_come 23 = .ok (.iload_n 1, 1) := by decide +kernel
theorem dM_come_24 : decode cM_come 24 = .ok (.imul, 1) := by decide +kernel
theorem dM_come_25 : decode cM_come 25 = .ok (.iconst 3, 1) := by decide +kernel
theorem dM_come_26 : decode cM_come 26 = .ok (.aload_n 0, 1) := by decide +kernel
theorem dM_come_27 : decode cM_come 27 = .ok (.getfield 26, 3) := by decide +kernel
theorem dM_come_30 : decode cM_come 30 = .ok (.iconst 3, 1) := by decide +kernel
theorem dM_come_31 : decode cM_come 31 = .ok (.iload_n 2, 1) := by decide +kernel
theorem dM_come_32 : decode cM_come 32 = .ok (.imul, 1) := by decide +kernel
theorem dM_come_33 : decode cM_come 33 = .ok (.iload_n 3, 1) := by decide +kernel
theorem dM_come_34 : decode cM_come 34 = .ok (.iconst 3, 1) := by decide +kernel
theorem dM_come_35 : decode cM_come 35 = .ok (.idiv, 1) := by decide +kernel
theorem dM_come_36 : decode cM_come 36 = .ok (.iadd, 1) := by decide +kernel
theorem dM_come_37 : decode cM_come 37 = .ok (.iaload, 1) := by decide +kernel
theorem dM_come_38 : decode cM_come 38 = .ok (.imul, 1) := by decide +kernel
theorem dM_come_39 : decode cM_come 39 = .ok (.iadd, 1) := by decide +kernel
theorem dM_come_40 : decode cM_come 40 = .ok (.iload_n 3, 1) := by decide +kernel
theorem dM_come_41 : decode cM_come 41 = .ok (.iconst 3, 1) := by decide +kernel
theorem dM_come_42 : decode cM_come 42 = .ok (.irem, 1) := by decide +kernel
theorem dM_come_43 : decode cM_come 43 = .ok (.iadd, 1) := by decide +kernel
theorem dM_come_44 : decode cM_come 44 = .ok (.iaload, 1) := by decide +kernel
theorem dM_come_45 : decode cM_come 45 = .ok (.iadd, 1) := by decide +kernel
theorem dM_come_46 : decode cM_come 46 = .ok (.istore 9, 2) := by decide +kernel
theorem dM_come_48 : decode cM_come 48 = .ok (.aload_n 0, 1) := by decide +kernel
theorem dM_come_49 : decode cM_come 49 = .ok (.getfield 47, 3) := by decide +kernel
theorem dM_come_52 : decode cM_come 52 = .ok (.iload 8, 2) := by decide +kernel
theorem dM_come_54 : decode cM_come 54 = .ok (.iaload, 1) := by decide +kernel
theorem dM_come_55 : decode cM_come 55 = .ok (.ifCond .lt 63, 3) := by decide +kernel
theorem dM_come_58 : decode cM_come 58 = .ok (.iload 9, 2) := by decide +kernel
theorem dM_come_60 : decode cM_come 60 = .ok (.aload_n 0, 1) := by decide +kernel
theorem dM_come_61 : decode cM_come 61 = .ok (.getfield 47, 3) := by decide +kernel
theorem dM_come_64 : decode cM_come 64 = .ok (.iload 8, 2) := by decide +kernel
theorem dM_come_66 : decode cM_come 66 = .ok (.iaload, 1) := by decide +kernel
theorem dM_come_67 : decode cM_come 67 = .ok (.if_icmp .lt 51, 3) := by decide +kernel
theorem dM_come_70 : decode cM_come 70 = .ok (.iload 9, 2) := by decide +kernel
theorem dM_come_72 : decode cM_come 72 = .ok (.aload_n 0, 1) := by decide +kernel
theorem dM_come_73 : decode cM_come 73 = .ok (.getfield 47, 3) := by decide +kernel
theorem dM_come_76 : decode cM_come 76 = .ok (.iload 8, 2) := by decide +kernel
theorem dM_come_78 : decode cM_come 78 = .ok (.iaload, 1) := by decide +kernel
theorem dM_come_79 : decode cM_come 79 = .ok (.if_icmp .ne 43, 3) := by decide +kernel
theorem dM_come_82 : decode cM_come 82 = .ok (.iload 6, 2) := by decide +kernel
theorem dM_come_84 : decode cM_come 84 = .ok (.aload_n 0, 1) := by decide +kernel
theorem dM_come_85 : decode cM_come 85 = .ok (.getfield 50, 3) := by decide +kernel
theorem dM_come_88 : decode cM_come 88 = .ok (.iload 8, 2) := by decide +kernel
theorem dM_come_90 : decode cM_come 90 = .ok (.iaload, 1) := by decide +kernel
theorem dM_come_91 : decode cM_come 91 = .ok (.if_icmp .lt 27, 3) := by decide +kernel
theorem dM_come_94 : decode cM_come 94 = .ok (.iload 6, 2) := by decide +kernel
theorem dM_come_96 : decode cM_come 96 = .ok (.aload_n 0, 1) := by decide +kernel
theorem dM_come_97 : decode cM_come 97 = .ok (.getfield 50, 3) := by decide +kernel
theorem dM_come_100 : decode cM_come 100 = .ok (.iload 8, 2) := by decide +kernel
theorem dM_come_102 : decode cM_come 102 = .ok (.iaload, 1) := by decide +kernel
theorem dM_come_103 : decode cM_come 103 = .ok (.if_icmp .ne 19, 3) := by decide +kernel
theorem dM_come_106 : decode cM_come 106 = .ok (.iload 7, 2) := by decide +kernel
theorem dM_come_108 : decode cM_come 108 = .ok (.aload_n 0, 1) := by decide +kernel
theorem dM_come_109 : decode cM_come 109 = .ok (.getfield 53, 3) := by decide +kernel
theorem dM_come_112 : decode cM_come 112 = .ok (.iload 8, 2) := by decide +kernel
theorem dM_come_114 : decode cM_come 114 = .ok (.iaload, 1) := by decide +kernel
theorem dM_come_115 : decode cM_come 115 = .ok (.if_icmp .ge 7, 3) := by decide +kernel
theorem dM_come_118 : decode cM_come 118 = .ok (.iconst 1, 1) := by decide +kernel
theorem dM_come_119 : decode cM_come 119 = .ok (.goto 4, 3) := by decide +kernel
theorem dM_come_122 : decode cM_come 122 = .ok (.iconst 0, 1) := by decide +kernel
theorem dM_come_123 : decode cM_come 123 = .ok (.istore 10, 2) := by decide +kernel
theorem dM_come_125 : decode cM_come 125 = .ok (.iload 10, 2) := by decide +kernel
theorem dM_come_127 : decode cM_come 127 = .ok (.ifCond .eq 30, 3) := by decide +kernel
theorem dM_come_130 : decode cM_come 130 = .ok (.aload_n 0, 1) := by decide +kernel
theorem dM_come_131 : decode cM_come 131 = .ok (.getfield 47, 3) := by decide +kernel
theorem dM_come_134 : decode cM_come 134 = .ok (.iload 8, 2) := by decide +kernel
theorem dM_come_136 : decode cM_come 136 = .ok (.iload 9, 2) := by decide +kernel
theorem dM_come_138 : decode cM_come 138 = .ok (.iastore, 1) := by decide +kernel
theorem dM_come_139 : decode cM_come 139 = .ok (.aload_n 0, 1) := by decide +kernel
theorem dM_come_140 : decode cM_come 140 = .ok (.getfield 50, 3) := by decide +kernel
theorem dM_come_143 : decode cM_come 143 = .ok (.iload 8, 2) := by decide +kernel
theorem dM_come_145 : decode cM_come 145 = .ok (.iload 6, 2) := by decide +kernel
theorem dM_come_147 : decode cM_come 147 = .ok (.iastore, 1) := by decide +kernel
theorem dM_come_148 : decode cM_come 148 = .ok (.aload_n 0, 1) := by decide +kernel
theorem dM_come_149 : decode cM_come 149 = .ok (.getfield 53, 3) := by decide +kernel
theorem dM_come_152 : decode cM_come 152 = .ok (.iload 8, 2) := by decide +kernel
theorem dM_come_154 : decode cM_come 154 = .ok (.iload 7, 2) := by decide +kernel
theorem dM_come_156 : decode cM_come 156 = .ok (.iastore, 1) := by decide +kernel
theorem dM_come_157 : decode cM_come 157 = .ok (.return_, 1) := by decide +kernel
theorem dM_clear_0 : decode cM_clear 0 = .ok (.iconst 0, 1) := by decide +kernel
theorem dM_clear_1 : decode cM_clear 1 = .ok (.istore_n 1, 1) := by decide +kernel
theorem dM_clear_2 : decode cM_clear 2 = .ok (.iload_n 1, 1) := by decide +kernel
theorem dM_clear_3 : decode cM_clear 3 = .ok (.sipush 1800, 3) := by decide +kernel
theorem dM_clear_6 : decode cM_clear 6 = .ok (.if_icmp .ge 16, 3) := by decide +kernel
theorem dM_clear_9 : decode cM_clear 9 = .ok (.aload_n 0, 1) := by decide +kernel
theorem dM_clear_10 : decode cM_clear 10 = .ok (.getfield 47, 3) := by decide +kernel
theorem dM_clear_13 : decode cM_clear 13 = .ok (.iload_n 1, 1) := by decide +kernel
theorem dM_clear_14 : decode cM_clear 14 = .ok (.iconst (-1), 1) := by decide +kernel
theorem dM_clear_15 : decode cM_clear 15 = .ok (.iastore, 1) := by decide +kernel
theorem dM_clear_16 : decode cM_clear 16 = .ok (.iinc 1 1, 3) := by decide +kernel
theorem dM_clear_19 : decode cM_clear 19 = .ok (.goto (-17), 3) := by decide +kernel
theorem dM_clear_22 : decode cM_clear 22 = .ok (.return_, 1) := by decide +kernel
theorem dM_take_0 : decode cM_take 0 = .ok (.iconst 0, 1) := by decide +kernel
theorem dM_take_1 : decode cM_take 1 = .ok (.istore_n 1, 1) := by decide +kernel
theorem dM_take_2 : decode cM_take 2 = .ok (.iload_n 1, 1) := by decide +kernel
theorem dM_take_3 : decode cM_take 3 = .ok (.sipush 1800, 3) := by decide +kernel
theorem dM_take_6 : decode cM_take 6 = .ok (.if_icmp .ge 45, 3) := by decide +kernel
theorem dM_take_9 : decode cM_take 9 = .ok (.aload_n 0, 1) := by decide +kernel
theorem dM_take_10 : decode cM_take 10 = .ok (.getfield 38, 3) := by decide +kernel
theorem dM_take_13 : decode cM_take 13 = .ok (.iload_n 1, 1) := by decide +kernel
theorem dM_take_14 : decode cM_take 14 = .ok (.aload_n 0, 1) := by decide +kernel
theorem dM_take_15 : decode cM_take 15 = .ok (.getfield 47, 3) := by decide +kernel
theorem dM_take_18 : decode cM_take 18 = .ok (.iload_n 1, 1) := by decide +kernel
theorem dM_take_19 : decode cM_take 19 = .ok (.iaload, 1) := by decide +kernel
theorem dM_take_20 : decode cM_take 20 = .ok (.iastore, 1) := by decide +kernel
theorem dM_take_21 : decode cM_take 21 = .ok (.aload_n 0, 1) := by decide +kernel
theorem dM_take_22 : decode cM_take 22 = .ok (.getfield 41, 3) := by decide +kernel
theorem dM_take_25 : decode cM_take 25 = .ok (.iload_n 1, 1) := by decide +kernel
theorem dM_take_26 : decode cM_take 26 = .ok (.aload_n 0, 1) := by decide +kernel
theorem dM_take_27 : decode cM_take 27 = .ok (.getfield 50, 3) := by decide +kernel
theorem dM_take_30 : decode cM_take 30 = .ok (.iload_n 1, 1) := by decide +kernel
theorem dM_take_31 : decode cM_take 31 = .ok (.iaload, 1) := by decide +kernel
theorem dM_take_32 : decode cM_take 32 = .ok (.iastore, 1) := by decide +kernel
theorem dM_take_33 : decode cM_take 33 = .ok (.aload_n 0, 1) := by decide +kernel
theorem dM_take_34 : decode cM_take 34 = .ok (.getfield 44, 3) := by decide +kernel
theorem dM_take_37 : decode cM_take 37 = .ok (.iload_n 1, 1) := by decide +kernel
theorem dM_take_38 : decode cM_take 38 = .ok (.aload_n 0, 1) := by decide +kernel
theorem dM_take_39 : decode cM_take 39 = .ok (.getfield 53, 3) := by decide +kernel
theorem dM_take_42 : decode cM_take 42 = .ok (.iload_n 1, 1) := by decide +kernel
theorem dM_take_43 : decode cM_take 43 = .ok (.iaload, 1) := by decide +kernel
theorem dM_take_44 : decode cM_take 44 = .ok (.iastore, 1) := by decide +kernel
theorem dM_take_45 : decode cM_take 45 = .ok (.iinc 1 1, 3) := by decide +kernel
theorem dM_take_48 : decode cM_take 48 = .ok (.goto (-46), 3) := by decide +kernel
theorem dM_take_51 : decode cM_take 51 = .ok (.return_, 1) := by decide +kernel
theorem dM_go_0 : decode cM_go 0 = .ok (.iload_n 1, 1) := by decide +kernel
theorem dM_go_1 : decode cM_go 1 = .ok (.sipush 225, 3) := by decide +kernel
theorem dM_go_4 : decode cM_go 4 = .ok (.idiv, 1) := by decide +kernel
theorem dM_go_5 : decode cM_go 5 = .ok (.istore_n 3, 1) := by decide +kernel
theorem dM_go_6 : decode cM_go 6 = .ok (.iload_n 1, 1) := by decide +kernel
theorem dM_go_7 : decode cM_go 7 = .ok (.bipush 25, 2) := by decide +kernel
theorem dM_go_9 : decode cM_go 9 = .ok (.idiv, 1) := by decide +kernel
theorem dM_go_10 : decode cM_go 10 = .ok (.bipush 9, 2) := by decide +kernel
theorem dM_go_12 : decode cM_go 12 = .ok (.irem, 1) := by decide +kernel
theorem dM_go_13 : decode cM_go 13 = .ok (.istore 4, 2) := by decide +kernel
theorem dM_go_15 : decode cM_go 15 = .ok (.iload_n 1, 1) := by decide +kernel
theorem dM_go_16 : decode cM_go 16 = .ok (.iconst 5, 1) := by decide +kernel
theorem dM_go_17 : decode cM_go 17 = .ok (.idiv, 1) := by decide +kernel
theorem dM_go_18 : decode cM_go 18 = .ok (.iconst 5, 1) := by decide +kernel
theorem dM_go_19 : decode cM_go 19 = .ok (.irem, 1) := by decide +kernel
theorem dM_go_20 : decode cM_go 20 = .ok (.istore 5, 2) := by decide +kernel
theorem dM_go_22 : decode cM_go 22 = .ok (.iload_n 1, 1) := by decide +kernel
theorem dM_go_23 : decode cM_go 23 = .ok (.iconst 5, 1) := by decide +kernel
theorem dM_go_24 : decode cM_go 24 = .ok (.irem, 1) := by decide +kernel
theorem dM_go_25 : decode cM_go 25 = .ok (.istore 6, 2) := by decide +kernel
theorem dM_go_27 : decode cM_go 27 = .ok (.aload_n 0, 1) := by decide +kernel
theorem dM_go_28 : decode cM_go 28 = .ok (.iload_n 2, 1) := by decide +kernel
theorem dM_go_29 : decode cM_go 29 = .ok (.iload_n 3, 1) := by decide +kernel
theorem dM_go_30 : decode cM_go 30 = .ok (.iload 4, 2) := by decide +kernel
theorem dM_go_32 : decode cM_go 32 = .ok (.iload_n 1, 1) := by decide +kernel
theorem dM_go_33 : decode cM_go 33 = .ok (.bipush 25, 2) := by decide +kernel
theorem dM_go_35 : decode cM_go 35 = .ok (.irem, 1) := by decide +kernel
theorem dM_go_36 : decode cM_go 36 = .ok (.aload_n 0, 1) := by decide +kernel
theorem dM_go_37 : decode cM_go 37 = .ok (.getfield 38, 3) := by decide +kernel
theorem dM_go_40 : decode cM_go 40 = .ok (.iload_n 1, 1) := by decide +kernel
theorem dM_go_41 : decode cM_go 41 = .ok (.iaload, 1) := by decide +kernel
theorem dM_go_42 : decode cM_go 42 = .ok (.aload_n 0, 1) := by decide +kernel
theorem dM_go_43 : decode cM_go 43 = .ok (.getfield 29, 3) := by decide +kernel
theorem dM_go_46 : decode cM_go 46 = .ok (.iload 4, 2) := by decide +kernel
theorem dM_go_48 : decode cM_go 48 = .ok (.iconst 3, 1) := by decide +kernel
theorem dM_go_49 : decode cM_go 49 = .ok (.irem, 1) := by decide +kernel
theorem dM_go_50 : decode cM_go 50 = .ok (.iaload, 1) := by decide +kernel
theorem dM_go_51 : decode cM_go 51 = .ok (.iadd, 1) := by decide +kernel
theorem dM_go_52 : decode cM_go 52 = .ok (.aload_n 0, 1) := by decide +kernel
theorem dM_go_53 : decode cM_go 53 = .ok (.getfield 41, 3) := by decide +kernel
theorem dM_go_56 : decode cM_go 56 = .ok (.iload_n 1, 1) := by decide +kernel
theorem dM_go_57 : decode cM_go 57 = .ok (.iaload, 1) := by decide +kernel
theorem dM_go_58 : decode cM_go 58 = .ok (.aload_n 0, 1) := by decide +kernel
theorem dM_go_59 : decode cM_go 59 = .ok (.getfield 44, 3) := by decide +kernel
theorem dM_go_62 : decode cM_go 62 = .ok (.iload_n 1, 1) := by decide +kernel
theorem dM_go_63 : decode cM_go 63 = .ok (.iaload, 1) := by decide +kernel
theorem dM_go_64 : decode cM_go 64 = .ok (.invokevirtual 90, 3) := by decide +kernel
theorem dM_go_67 : decode cM_go 67 = .ok (.iload 4, 2) := by decide +kernel
theorem dM_go_69 : decode cM_go 69 = .ok (.iconst 1, 1) := by decide +kernel
theorem dM_go_70 : decode cM_go 70 = .ok (.iadd, 1) := by decide +kernel
theorem dM_go_71 : decode cM_go 71 = .ok (.iconst 3, 1) := by decide +kernel
theorem dM_go_72 : decode cM_go 72 = .ok (.aload_n 0, 1) := by decide +kernel
theorem dM_go_73 : decode cM_go 73 = .ok (.getfield 23, 3) := by decide +kernel
theorem dM_go_76 : decode cM_go 76 = .ok (.iload_n 3, 1) := by decide +kernel
theorem dM_go_77 : decode cM_go 77 = .ok (.iaload, 1) := by decide +kernel
theorem dM_go_78 : decode cM_go 78 = .ok (.imul, 1) := by decide +kernel
theorem dM_go_79 : decode cM_go 79 = .ok (.if_icmp .ge 46, 3) := by decide +kernel
theorem dM_go_82 : decode cM_go 82 = .ok (.aload_n 0, 1) := by decide +kernel
theorem dM_go_83 : decode cM_go 83 = .ok (.iload_n 2, 1) := by decide +kernel
theorem dM_go_84 : decode cM_go 84 = .ok (.iload_n 3, 1) := by decide +kernel
theorem dM_go_85 : decode cM_go 85 = .ok (.iload 4, 2) := by decide +kernel
theorem dM_go_87 : decode cM_go 87 = .ok (.iconst 1, 1) := by decide +kernel
theorem dM_go_88 : decode cM_go 88 = .ok (.iadd, 1) := by decide +kernel
theorem dM_go_89 : decode cM_go 89 = .ok (.iload_n 1, 1) := by decide +kernel
theorem dM_go_90 : decode cM_go 90 = .ok (.bipush 25, 2) := by decide +kernel
theorem dM_go_92 : decode cM_go 92 = .ok (.irem, 1) := by decide +kernel
theorem dM_go_93 : decode cM_go 93 = .ok (.aload_n 0, 1) := by decide +kernel
theorem dM_go_94 : decode cM_go 94 = .ok (.getfield 38, 3) := by decide +kernel
theorem dM_go_97 : decode cM_go 97 = .ok (.iload_n 1, 1) := by decide +kernel
theorem dM_go_98 : decode cM_go 98 = .ok (.iaload, 1) := by decide +kernel
theorem dM_go_99 : decode cM_go 99 = .ok (.aload_n 0, 1) := by decide +kernel
theorem dM_go_100 : decode cM_go 100 = .ok (.getfield 32, 3) := by decide +kernel
theorem dM_go_103 : decode cM_go 103 = .ok (.iload 4, 2) := by decide +kernel
theorem dM_go_105 : decode cM_go 105 = .ok (.iconst 3, 1) := by decide +kernel
theorem dM_go_106 : decode cM_go 106 = .ok (.irem, 1) := by decide +kernel
theorem dM_go_107 : decode cM_go 107 = .ok (.iaload, 1) := by decide +kernel
theorem dM_go_108 : decode cM_go 108 = .ok (.iadd, 1) := by decide +kernel
theorem dM_go_109 : decode cM_go 109 = .ok (.aload_n 0, 1) := by decide +kernel
theorem dM_go_110 : decode cM_go 110 = .ok (.getfield 41, 3) := by decide +kernel
theorem dM_go_113 : decode cM_go 113 = .ok (.iload_n 1, 1) := by decide +kernel
theorem dM_go_114 : decode cM_go 114 = .ok (.iaload, 1) := by decide +kernel
theorem dM_go_115 : decode cM_go 115 = .ok (.aload_n 0, 1) := by decide +kernel
theorem dM_go_116 : decode cM_go 116 = .ok (.getfield 44, 3) := by decide +kernel
theorem dM_go_119 : decode cM_go 119 = .ok (.iload_n 1, 1) := by decide +kernel
theorem dM_go_120 : decode cM_go 120 = .ok (.iaload, 1) := by decide +kernel
theorem dM_go_121 : decode cM_go 121 = .ok (.invokevirtual 90, 3) := by decide +kernel
theorem dM_go_124 : decode cM_go 124 = .ok (.return_, 1) := by decide +kernel
theorem dM_go_125 : decode cM_go 125 = .ok (.aload_n 0, 1) := by decide +kernel
theorem dM_go_126 : decode cM_go 126 = .ok (.iload 5, 2) := by decide +kernel
theorem dM_go_128 : decode cM_go 128 = .ok (.iload 6, 2) := by decide +kernel
theorem dM_go_130 : decode cM_go 130 = .ok (.aload_n 0, 1) := by decide +kernel
theorem dM_go_131 : decode cM_go 131 = .ok (.getfield 20, 3) := by decide +kernel
theorem dM_go_134 : decode cM_go 134 = .ok (.iload_n 3, 1) := by decide +kernel
theorem dM_go_135 : decode cM_go 135 = .ok (.iaload, 1) := by decide +kernel
theorem dM_go_136 : decode cM_go 136 = .ok (.invokevirtual 94, 3) := by decide +kernel
theorem dM_go_139 : decode cM_go 139 = .ok (.istore 7, 2) := by decide +kernel
theorem dM_go_141 : decode cM_go 141 = .ok (.iconst 0, 1) := by decide +kernel
theorem dM_go_142 : decode cM_go 142 = .ok (.istore 8, 2) := by decide +kernel
theorem dM_go_144 : decode cM_go 144 = .ok (.iload 8, 2) := by decide +kernel
theorem dM_go_146 : decode cM_go 146 = .ok (.aload_n 0, 1) := by decide +kernel
theorem dM_go_147 : decode cM_go 147 = .ok (.getfield 60, 3) := by decide +kernel
theorem dM_go_150 : decode cM_go 150 = .ok (.if_icmp .ge 72, 3) := by decide +kernel
theorem dM_go_153 : decode cM_go 153 = .ok (.iload 7, 2) := by decide +kernel
theorem dM_go_155 : decode cM_go 155 = .ok (.ifCond .lt 67, 3) := by decide +kernel
theorem dM_go_158 : decode cM_go 158 = .ok (.aload_n 0, 1) := by decide +kernel
theorem dM_go_159 : decode cM_go 159 = .ok (.iload_n 2, 1) := by decide +kernel
theorem dM_go_160 : decode cM_go 160 = .ok (.iload 8, 2) := by decide +kernel
theorem dM_go_162 : decode cM_go 162 = .ok (.iconst 0, 1) := by decide +kernel
theorem dM_go_163 : decode cM_go 163 = .ok (.iconst 5, 1) := by decide +kernel
theorem dM_go_164 : decode cM_go 164 = .ok (.iload 6, 2) := by decide +kernel
theorem dM_go_166 : decode cM_go 166 = .ok (.imul, 1) := by decide +kernel
theorem dM_go_167 : decode cM_go 167 = .ok (.aload_n 0, 1) := by decide +kernel
theorem dM_go_168 : decode cM_go 168 = .ok (.getfield 20, 3) := by decide +kernel
theorem dM_go_171 : decode cM_go 171 = .ok (.iload_n 3, 1) := by decide +kernel
theorem dM_go_172 : decode cM_go 172 = .ok (.iaload, 1) := by decide +kernel
theorem dM_go_173 : decode cM_go 173 = .ok (.iadd, 1) := by decide +kernel
theorem dM_go_174 : decode cM_go 174 = .ok (.aload_n 0, 1) := by decide +kernel
theorem dM_go_175 : decode cM_go 175 = .ok (.getfield 38, 3) := by decide +kernel
theorem dM_go_178 : decode cM_go 178 = .ok (.iload_n 1, 1) := by decide +kernel
theorem dM_go_179 : decode cM_go 179 = .ok (.iaload, 1) := by decide +kernel
theorem dM_go_180 : decode cM_go 180 = .ok (.aload_n 0, 1) := by decide +kernel
theorem dM_go_181 : decode cM_go 181 = .ok (.getfield 32, 3) := by decide +kernel
theorem dM_go_184 : decode cM_go 184 = .ok (.iconst 2, 1) := by decide +kernel
theorem dM_go_185 : decode cM_go 185 = .ok (.iaload, 1) := by decide +kernel
theorem dM_go_186 : decode cM_go 186 = .ok (.iadd, 1) := by decide +kernel
theorem dM_go_187 : decode cM_go 187 = .ok (.iload 7, 2) := by decide +kernel
theorem dM_go_189 : decode cM_go 189 = .ok (.iadd, 1) := by decide +kernel
theorem dM_go_190 : decode cM_go 190 = .ok (.aload_n 0, 1) := by decide +kernel
theorem dM_go_191 : decode cM_go 191 = .ok (.getfield 41, 3) := by decide +kernel
theorem dM_go_194 : decode cM_go 194 = .ok (.iload_n 1, 1) := by decide +kernel
theorem dM_go_195 : decode cM_go 195 = .ok (.iaload, 1) := by decide +kernel
theorem dM_go_196 : decode cM_go 196 = .ok (.iconst 1, 1) := by decide +kernel
theorem dM_go_197 : decode cM_go 197 = .ok (.iadd, 1) := by decide +kernel
theorem dM_go_198 : decode cM_go 198 = .ok (.iconst 4, 1) := by decide +kernel
theorem dM_go_199 : decode cM_go 199 = .ok (.aload_n 0, 1) := by decide +kernel
theorem dM_go_200 : decode cM_go 200 = .ok (.getfield 44, 3) := by decide +kernel
theorem dM_go_203 : decode cM_go 203 = .ok (.iload_n 1, 1) := by decide +kernel
theorem dM_go_204 : decode cM_go 204 = .ok (.iaload, 1) := by decide +kernel
theorem dM_go_205 : decode cM_go 205 = .ok (.imul, 1) := by decide +kernel
theorem dM_go_206 : decode cM_go 206 = .ok (.aload_n 0, 1) := by decide +kernel
theorem dM_go_207 : decode cM_go 207 = .ok (.getfield 20, 3) := by decide +kernel
theorem dM_go_210 : decode cM_go 210 = .ok (.iload_n 3, 1) := by decide +kernel
theorem dM_go_211 : decode cM_go 211 = .ok (.iaload, 1) := by decide +kernel
theorem dM_go_212 : decode cM_go 212 = .ok (.iadd, 1) := by decide +kernel
theorem dM_go_213 : decode cM_go 213 = .ok (.invokevirtual 90, 3) := by decide +kernel
theorem dM_go_216 : decode cM_go 216 = .ok (.iinc 8 1, 3) := by decide +kernel
theorem dM_go_219 : decode cM_go 219 = .ok (.goto (-75), 3) := by decide +kernel
theorem dM_go_222 : decode cM_go 222 = .ok (.return_, 1) := by decide +kernel
theorem dM_run_0 : decode cM_run 0 = .ok (.aload_n 0, 1) := by decide +kernel
theorem dM_run_1 : decode cM_run 1 = .ok (.invokevirtual 97, 3) := by decide +kernel
theorem dM_run_4 : decode cM_run 4 = .ok (.iconst 0, 1) := by decide +kernel
theorem dM_run_5 : decode cM_run 5 = .ok (.istore_n 2, 1) := by decide +kernel
theorem dM_run_6 : decode cM_run 6 = .ok (.iload_n 2, 1) := by decide +kernel
theorem dM_run_7 : decode cM_run 7 = .ok (.aload_n 0, 1) := by decide +kernel
theorem dM_run_8 : decode cM_run 8 = .ok (.getfield 60, 3) := by decide +kernel
theorem dM_run_11 : decode cM_run 11 = .ok (.if_icmp .ge 25, 3) := by decide +kernel
theorem dM_run_14 : decode cM_run 14 = .ok (.iload_n 1, 1) := by decide +kernel
theorem dM_run_15 : decode cM_run 15 = .ok (.ifCond .le 21, 3) := by decide +kernel
theorem dM_run_18 : decode cM_run 18 = .ok (.aload_n 0, 1) := by decide +kernel
theorem dM_run_19 : decode cM_run 19 = .ok (.iconst 0, 1) := by decide +kernel
theorem dM_run_20 : decode cM_run 20 = .ok (.iload_n 2, 1) := by decide +kernel
theorem dM_run_21 : decode cM_run 21 = .ok (.iconst 0, 1) := by decide +kernel
theorem dM_run_22 : decode cM_run 22 = .ok (.bipush 24, 2) := by decide +kernel
theorem dM_run_24 : decode cM_run 24 = .ok (.iconst 0, 1) := by decide +kernel
theorem dM_run_25 : decode cM_run 25 = .ok (.iconst 0, 1) := by decide +kernel
theorem dM_run_26 : decode cM_run 26 = .ok (.iconst 0, 1) := by decide +kernel
theorem dM_run_27 : decode cM_run 27 = .ok (.invokevirtual 90, 3) := by decide +kernel
theorem dM_run_30 : decode cM_run 30 = .ok (.iinc 2 1, 3) := by decide +kernel
theorem dM_run_33 : decode cM_run 33 = .ok (.goto (-27), 3) := by decide +kernel
theorem dM_run_36 : decode cM_run 36 = .ok (.aload_n 0, 1) := by decide +kernel
theorem dM_run_37 : decode cM_run 37 = .ok (.invokevirtual 100, 3) := by decide +kernel
theorem dM_run_40 : decode cM_run 40 = .ok (.iconst 1, 1) := by decide +kernel
theorem dM_run_41 : decode cM_run 41 = .ok (.istore_n 2, 1) := by decide +kernel
theorem dM_run_42 : decode cM_run 42 = .ok (.iload_n 2, 1) := by decide +kernel
theorem dM_run_43 : decode cM_run 43 = .ok (.iload_n 1, 1) := by decide +kernel
theorem dM_run_44 : decode cM_run 44 = .ok (.if_icmp .ge 47, 3) := by decide +kernel
theorem dM_run_47 : decode cM_run 47 = .ok (.aload_n 0, 1) := by decide +kernel
theorem dM_run_48 : decode cM_run 48 = .ok (.invokevirtual 97, 3) := by decide +kernel
theorem dM_run_51 : decode cM_run 51 = .ok (.iconst 0, 1) := by decide +kernel
theorem dM_run_52 : decode cM_run 52 = .ok (.istore_n 3, 1) := by decide +kernel
theorem dM_run_53 : decode cM_run 53 = .ok (.iload_n 3, 1) := by decide +kernel
theorem dM_run_54 : decode cM_run 54 = .ok (.sipush 1800, 3) := by decide +kernel
theorem dM_run_57 : decode cM_run 57 = .ok (.if_icmp .ge 24, 3) := by decide +kernel
theorem dM_run_60 : decode cM_run 60 = .ok (.aload_n 0, 1) := by decide +kernel
theorem dM_run_61 : decode cM_run 61 = .ok (.getfield 38, 3) := by decide +kernel
theorem dM_run_64 : decode cM_run 64 = .ok (.iload_n 3, 1) := by decide +kernel
theorem dM_run_65 : decode cM_run 65 = .ok (.iaload, 1) := by decide +kernel
theorem dM_run_66 : decode cM_run 66 = .ok (.ifCond .lt 9, 3) := by decide +kernel
theorem dM_run_69 : decode cM_run 69 = .ok (.aload_n 0, 1) := by decide +kernel
theorem dM_run_70 : decode cM_run 70 = .ok (.iload_n 3, 1) := by decide +kernel
theorem dM_run_71 : decode cM_run 71 = .ok (.iload_n 2, 1) := by decide +kernel
theorem dM_run_72 : decode cM_run 72 = .ok (.invokevirtual 103, 3) := by decide +kernel
theorem dM_run_75 : decode cM_run 75 = .ok (.iinc 3 1, 3) := by decide +kernel
theorem dM_run_78 : decode cM_run 78 = .ok (.goto (-25), 3) := by decide +kernel
theorem dM_run_81 : decode cM_run 81 = .ok (.aload_n 0, 1) := by decide +kernel
theorem dM_run_82 : decode cM_run 82 = .ok (.invokevirtual 100, 3) := by decide +kernel
theorem dM_run_85 : decode cM_run 85 = .ok (.iinc 2 1, 3) := by decide +kernel
theorem dM_run_88 : decode cM_run 88 = .ok (.goto (-46), 3) := by decide +kernel
theorem dM_run_91 : decode cM_run 91 = .ok (.return_, 1) := by decide +kernel
theorem dM_whole_0 : decode cM_whole 0 = .ok (.aload_n 0, 1) := by decide +kernel
theorem dM_whole_1 : decode cM_whole 1 = .ok (.aload_n 0, 1) := by decide +kernel
theorem dM_whole_2 : decode cM_whole 2 = .ok (.getfield 87, 3) := by decide +kernel
theorem dM_whole_5 : decode cM_whole 5 = .ok (.invokevirtual 107, 3) := by decide +kernel
theorem dM_whole_8 : decode cM_whole 8 = .ok (.aload_n 0, 1) := by decide +kernel
theorem dM_whole_9 : decode cM_whole 9 = .ok (.iconst (-1), 1) := by decide +kernel
theorem dM_whole_10 : decode cM_whole 10 = .ok (.putfield 111, 3) := by decide +kernel
theorem dM_whole_13 : decode cM_whole 13 = .ok (.aload_n 0, 1) := by decide +kernel
theorem dM_whole_14 : decode cM_whole 14 = .ok (.iconst 0, 1) := by decide +kernel
theorem dM_whole_15 : decode cM_whole 15 = .ok (.putfield 114, 3) := by decide +kernel
theorem dM_whole_18 : decode cM_whole 18 = .ok (.aload_n 0, 1) := by decide +kernel
theorem dM_whole_19 : decode cM_whole 19 = .ok (.iconst 0, 1) := by decide +kernel
theorem dM_whole_20 : decode cM_whole 20 = .ok (.putfield 117, 3) := by decide +kernel
theorem dM_whole_23 : decode cM_whole 23 = .ok (.iconst 0, 1) := by decide +kernel
theorem dM_whole_24 : decode cM_whole 24 = .ok (.istore_n 1, 1) := by decide +kernel
theorem dM_whole_25 : decode cM_whole 25 = .ok (.iload_n 1, 1) := by decide +kernel
theorem dM_whole_26 : decode cM_whole 26 = .ok (.sipush 225, 3) := by decide +kernel
theorem dM_whole_29 : decode cM_whole 29 = .ok (.aload_n 0, 1) := by decide +kernel
theorem dM_whole_30 : decode cM_whole 30 = .ok (.getfield 60, 3) := by decide +kernel
theorem dM_whole_33 : decode cM_whole 33 = .ok (.imul, 1) := by decide +kernel
theorem dM_whole_34 : decode cM_whole 34 = .ok (.if_icmp .ge 225, 3) := by decide +kernel
theorem dM_whole_37 : decode cM_whole 37 = .ok (.iload_n 1, 1) := by decide +kernel
theorem dM_whole_38 : decode cM_whole 38 = .ok (.sipush 225, 3) := by decide +kernel
theorem dM_whole_41 : decode cM_whole 41 = .ok (.idiv, 1) := by decide +kernel
theorem dM_whole_42 : decode cM_whole 42 = .ok (.istore_n 2, 1) := by decide +kernel
theorem dM_whole_43 : decode cM_whole 43 = .ok (.aload_n 0, 1) := by decide +kernel
theorem dM_whole_44 : decode cM_whole 44 = .ok (.getfield 20, 3) := by decide +kernel
theorem dM_whole_47 : decode cM_whole 47 = .ok (.iload_n 2, 1) := by decide +kernel
theorem dM_whole_48 : decode cM_whole 48 = .ok (.iaload, 1) := by decide +kernel
theorem dM_whole_49 : decode cM_whole 49 = .ok (.istore_n 3, 1) := by decide +kernel
theorem dM_whole_50 : decode cM_whole 50 = .ok (.aload_n 0, 1) := by decide +kernel
theorem dM_whole_51 : decode cM_whole 51 = .ok (.getfield 38, 3) := by decide +kernel
theorem dM_whole_54 : decode cM_whole 54 = .ok (.iload_n 1, 1) := by decide +kernel
theorem dM_whole_55 : decode cM_whole 55 = .ok (.iaload, 1) := by decide +kernel
theorem dM_whole_56 : decode cM_whole 56 = .ok (.ifCond .lt 27, 3) := by decide +kernel
theorem dM_whole_59 : decode cM_whole 59 = .ok (.iload_n 1, 1) := by decide +kernel
theorem dM_whole_60 : decode cM_whole 60 = .ok (.bipush 25, 2) := by decide +kernel
theorem dM_whole_62 : decode cM_whole 62 = .ok (.idiv, 1) := by decide +kernel
theorem dM_whole_63 : decode cM_whole 63 = .ok (.bipush 9, 2) := by decide +kernel
theorem dM_whole_65 : decode cM_whole 65 = .ok (.irem, 1) := by decide +kernel
theorem dM_whole_66 : decode cM_whole 66 = .ok (.iconst 3, 1) := by decide +kernel
theorem dM_whole_67 : decode cM_whole 67 = .ok (.aload_n 0, 1) := by decide +kernel
theorem dM_whole_68 : decode cM_whole 68 = .ok (.getfield 23, 3) := by decide +kernel
theorem dM_whole_71 : decode cM_whole 71 = .ok (.iload_n 2, 1) := by decide +kernel
theorem dM_whole_72 : decode cM_whole 72 = .ok (.iaload, 1) := by decide +kernel
theorem dM_whole_73 : decode cM_whole 73 = .ok (.imul, 1) := by decide +kernel
theorem dM_whole_74 : decode cM_whole 74 = .ok (.iconst 1, 1) := by decide +kernel
theorem dM_whole_75 : decode cM_whole 75 = .ok (.isub, 1) := by decide +kernel
theorem dM_whole_76 : decode cM_whole 76 = .ok (.if_icmp .ne 7, 3) := by decide +kernel
theorem dM_whole_79 : decode cM_whole 79 = .ok (.iconst 1, 1) := by decide +kernel
theorem dM_whole_80 : decode cM_whole 80 = .ok (.goto 4, 3) := by decide +kernel
theorem dM_whole_83 : decode cM_whole 83 = .ok (.iconst 0, 1) := by decide +kernel
theorem dM_whole_84 : decode cM_whole 84 = .ok (.istore 4, 2) := by decide +kernel
theorem dM_whole_86 : decode cM_whole 86 = .ok (.iload 4, 2) := by decide +kernel
theorem dM_whole_88 : decode cM_whole 88 = .ok (.ifCond .eq 19, 3) := by decide +kernel
theorem dM_whole_91 : decode cM_whole 91 = .ok (.aload_n 0, 1) := by decide +kernel
theorem dM_whole_92 : decode cM_whole 92 = .ok (.iload_n 1, 1) := by decide +kernel
theorem dM_whole_93 : decode cM_whole 93 = .ok (.iconst 5, 1) := by decide +kernel
theorem dM_whole_94 : decode cM_whole 94 = .ok (.idiv, 1) := by decide +kernel
theorem dM_whole_95 : decode cM_whole 95 = .ok (.iconst 5, 1) := by decide +kernel
theorem dM_whole_96 : decode cM_whole 96 = .ok (.irem, 1) := by decide +kernel
theorem dM_whole_97 : decode cM_whole 97 = .ok (.iload_n 1, 1) := by decide +kernel
theorem dM_whole_98 : decode cM_whole 98 = .ok (.iconst 5, 1) := by decide +kernel
theorem dM_whole_99 : decode cM_whole 99 = .ok (.irem, 1) := by decide +kernel
theorem dM_whole_100 : decode cM_whole 100 = .ok (.iload_n 3, 1) := by decide +kernel
theorem dM_whole_101 : decode cM_whole 101 = .ok (.invokevirtual 94, 3) := by decide +kernel
theorem dM_whole_104 : decode cM_whole 104 = .ok (.goto 4, 3) := by decide +kernel
theorem dM_whole_107 : decode cM_whole 107 = .ok (.iconst (-1), 1) := by decide +kernel
theorem dM_whole_108 : decode cM_whole 108 = .ok (.istore 5, 2) := by decide +kernel
theorem dM_whole_110 : decode cM_whole 110 = .ok (.iload 4, 2) := by decide +kernel
theorem dM_whole_112 : decode cM_whole 112 = .ok (.ifCond .eq 15, 3) := by decide +kernel
theorem dM_whole_115 : decode cM_whole 115 = .ok (.aload_n 0, 1) := by decide +kernel
theorem dM_whole_116 : decode cM_whole 116 = .ok (.iload_n 1, 1) := by decide +kernel
theorem dM_whole_117 : decode cM_whole 117 = .ok (.iconst 5, 1) := by decide +kernel
theorem dM_whole_118 : decode cM_whole 118 = .ok (.irem, 1) := by decide +kernel
theorem dM_whole_119 : decode cM_whole 119 = .ok (.iload_n 3, 1) := by decide +kernel
theorem dM_whole_120 : decode cM_whole 120 = .ok (.iconst 4, 1) := by decide +kernel
theorem dM_whole_121 : decode cM_whole 121 = .ok (.invokevirtual 94, 3) := by decide +kernel
theorem dM_whole_124 : decode cM_whole 124 = .ok (.goto 4, 3) := by decide +kernel
theorem dM_whole_127 : decode cM_whole 127 = .ok (.iconst (-1), 1) := by decide +kernel
theorem dM_whole_128 : decode cM_whole 128 = .ok (.istore 6, 2) := by decide +kernel
theorem dM_whole_130 : decode cM_whole 130 = .ok (.iload 5, 2) := by decide +kernel
theorem dM_whole_132 : decode cM_whole 132 = .ok (.ifCond .lt 121, 3) := by decide +kernel
theorem dM_whole_135 : decode cM_whole 135 = .ok (.iload 6, 2) := by decide +kernel
theorem dM_whole_137 : decode cM_whole 137 = .ok (.ifCond .lt 116, 3) := by decide +kernel
theorem dM_whole_140 : decode cM_whole 140 = .ok (.aload_n 0, 1) := by decide +kernel
theorem dM_whole_141 : decode cM_whole 141 = .ok (.getfield 38, 3) := by decide +kernel
theorem dM_whole_144 : decode cM_whole 144 = .ok (.iload_n 1, 1) := by decide +kernel
theorem dM_whole_145 : decode cM_whole 145 = .ok (.iaload, 1) := by decide +kernel
theorem dM_whole_146 : decode cM_whole 146 = .ok (.aload_n 0, 1) := by decide +kernel
theorem dM_whole_147 : decode cM_whole 147 = .ok (.getfield 32, 3) := by decide +kernel
theorem dM_whole_150 : decode cM_whole 150 = .ok (.iconst 2, 1) := by decide +kernel
theorem dM_whole_151 : decode cM_whole 151 = .ok (.iaload, 1) := by decide +kernel
theorem dM_whole_152 : decode cM_whole 152 = .ok (.iadd, 1) := by decide +kernel
theorem dM_whole_153 : decode cM_whole 153 = .ok (.iload 5, 2) := by decide +kernel
theorem dM_whole_155 : decode cM_whole 155 = .ok (.iadd, 1) := by decide +kernel
theorem dM_whole_156 : decode cM_whole 156 = .ok (.iload 6, 2) := by decide +kernel
theorem dM_whole_158 : decode cM_whole 158 = .ok (.iadd, 1) := by decide +kernel
theorem dM_whole_159 : decode cM_whole 159 = .ok (.istore 7, 2) := by decide +kernel
theorem dM_whole_161 : decode cM_whole 161 = .ok (.aload_n 0, 1) := by decide +kernel
theorem dM_whole_162 : decode cM_whole 162 = .ok (.getfield 41, 3) := by decide +kernel
theorem dM_whole_165 : decode cM_whole 165 = .ok (.iload_n 1, 1) := by decide +kernel
theorem dM_whole_166 : decode cM_whole 166 = .ok (.iaload, 1) := by decide +kernel
theorem dM_whole_167 : decode cM_whole 167 = .ok (.iconst 1, 1) := by decide +kernel
theorem dM_whole_168 : decode cM_whole 168 = .ok (.iadd, 1) := by decide +kernel
theorem dM_whole_169 : decode cM_whole 169 = .ok (.istore 8, 2) := by decide +kernel
theorem dM_whole_171 : decode cM_whole 171 = .ok (.iconst 4, 1) := by decide +kernel
theorem dM_whole_172 : decode cM_whole 172 = .ok (.aload_n 0, 1) := by decide +kernel
theorem dM_whole_173 : decode cM_whole 173 = .ok (.getfield 44, 3) := by decide +kernel
theorem dM_whole_176 : decode cM_whole 176 = .ok (.iload_n 1, 1) := by decide +kernel
theorem dM_whole_177 : decode cM_whole 177 = .ok (.iaload, 1) := by decide +kernel
theorem dM_whole_178 : decode cM_whole 178 = .ok (.imul, 1) := by decide +kernel
theorem dM_whole_179 : decode cM_whole 179 = .ok (.iload_n 3, 1) := by decide +kernel
theorem dM_whole_180 : decode cM_whole 180 = .ok (.iadd, 1) := by decide +kernel
theorem dM_whole_181 : decode cM_whole 181 = .ok (.istore 9, 2) := by decide +kernel
theorem dM_whole_183 : decode cM_whole 183 = .ok (.aload_n 0, 1) := by decide +kernel
theorem dM_whole_184 : decode cM_whole 184 = .ok (.getfield 111, 3) := by decide +kernel
theorem dM_whole_187 : decode cM_whole 187 = .ok (.ifCond .lt 48, 3) := by decide +kernel
theorem dM_whole_190 : decode cM_whole 190 = .ok (.iload 7, 2) := by decide +kernel
theorem dM_whole_192 : decode cM_whole 192 = .ok (.aload_n 0, 1) := by decide +kernel
theorem dM_whole_193 : decode cM_whole 193 = .ok (.getfield 111, 3) := by decide +kernel
theorem dM_whole_196 : decode cM_whole 196 = .ok (.if_icmp .lt 39, 3) := by decide +kernel
theorem dM_whole_199 : decode cM_whole 199 = .ok (.iload 7, 2) := by decide +kernel
theorem dM_whole_201 : decode cM_whole 201 = .ok (.aload_n 0, 1) := by decide +kernel
theorem dM_whole_202 : decode cM_whole 202 = .ok (.getfield 111, 3) := by decide +kernel
theorem dM_whole_205 : decode cM_whole 205 = .ok (.if_icmp .ne 48, 3) := by decide +kernel
theorem dM_whole_208 : decode cM_whole 208 = .ok (.iload 8, 2) := by decide +kernel
theorem dM_whole_210 : decode cM_whole 210 = .ok (.aload_n 0, 1) := by decide +kernel
theorem dM_whole_211 : decode cM_whole 211 = .ok (.getfield 114, 3) := by decide +kernel
theorem dM_whole_214 : decode cM_whole 214 = .ok (.if_icmp .lt 21, 3) := by decide +kernel
theorem dM_whole_217 : decode cM_whole 217 = .ok (.iload 8, 2) := by decide +kernel
theorem dM_whole_219 : decode cM_whole 219 = .ok (.aload_n 0, 1) := by decide +kernel
theorem dM_whole_220 : decode cM_whole 220 = .ok (.getfield 114, 3) := by decide +kernel
theorem dM_whole_223 : decode cM_whole 223 = .ok (.if_icmp .ne 30, 3) := by decide +kernel
theorem dM_whole_226 : decode cM_whole 226 = .ok (.iload 9, 2) := by decide +kernel
theorem dM_whole_228 : decode cM_whole 228 = .ok (.aload_n 0, 1) := by decide +kernel
theorem dM_whole_229 : decode cM_whole 229 = .ok (.getfield 117, 3) := by decide +kernel
theorem dM_whole_232 : decode cM_whole 232 = .ok (.if_icmp .ge 21, 3) := by decide +kernel
theorem dM_whole_235 : decode cM_whole 235 = .ok (.aload_n 0, 1) := by decide +kernel
theorem dM_whole_236 : decode cM_whole 236 = .ok (.iload 7, 2) := by decide +kernel
theorem dM_whole_238 : decode cM_whole 238 = .ok (.putfield 111, 3) := by decide +kernel
theorem dM_whole_241 : decode cM_whole 241 = .ok (.aload_n 0, 1) := by decide +kernel
theorem dM_whole_242 : decode cM_whole 242 = .ok (.iload 8, 2) := by decide +kernel
theorem dM_whole_244 : decode cM_whole 244 = .ok (.putfield 114, 3) := by decide +kernel
theorem dM_whole_247 : decode cM_whole 247 = .ok (.aload_n 0, 1) := by decide +kernel
theorem dM_whole_248 : decode cM_whole 248 = .ok (.iload 9, 2) := by decide +kernel
theorem dM_whole_250 : decode cM_whole 250 = .ok (.putfield 117, 3) := by decide +kernel
theorem dM_whole_253 : decode cM_whole 253 = .ok (.iinc 1 1, 3) := by decide +kernel
theorem dM_whole_256 : decode cM_whole 256 = .ok (.goto (-231), 3) := by decide +kernel
theorem dM_whole_259 : decode cM_whole 259 = .ok (.return_, 1) := by decide +kernel
theorem dM_total_0 : decode cM_total 0 = .ok (.aload_n 0, 1) := by decide +kernel
theorem dM_total_1 : decode cM_total 1 = .ok (.invokevirtual 120, 3) := by decide +kernel
theorem dM_total_4 : decode cM_total 4 = .ok (.aload_n 0, 1) := by decide +kernel
theorem dM_total_5 : decode cM_total 5 = .ok (.getfield 111, 3) := by decide +kernel
theorem dM_total_8 : decode cM_total 8 = .ok (.ireturn, 1) := by decide +kernel
theorem dM_length_0 : decode cM_length 0 = .ok (.aload_n 0, 1) := by decide +kernel
theorem dM_length_1 : decode cM_length 1 = .ok (.invokevirtual 120, 3) := by decide +kernel
theorem dM_length_4 : decode cM_length 4 = .ok (.aload_n 0, 1) := by decide +kernel
theorem dM_length_5 : decode cM_length 5 = .ok (.getfield 114, 3) := by decide +kernel
theorem dM_length_8 : decode cM_length 8 = .ok (.ireturn, 1) := by decide +kernel
theorem dM_wordAt_0 : decode cM_wordAt 0 = .ok (.aload_n 0, 1) := by decide +kernel
theorem dM_wordAt_1 : decode cM_wordAt 1 = .ok (.invokevirtual 120, 3) := by decide +kernel
theorem dM_wordAt_4 : decode cM_wordAt 4 = .ok (.iload_n 1, 1) := by decide +kernel
theorem dM_wordAt_5 : decode cM_wordAt 5 = .ok (.ifCond .lt 11, 3) := by decide +kernel
theorem dM_wordAt_8 : decode cM_wordAt 8 = .ok (.iload_n 1, 1) := by decide +kernel
theorem dM_wordAt_9 : decode cM_wordAt 9 = .ok (.aload_n 0, 1) := by decide +kernel
theorem dM_wordAt_10 : decode cM_wordAt 10 = .ok (.getfield 114, 3) := by decide +kernel
theorem dM_wordAt_13 : decode cM_wordAt 13 = .ok (.if_icmp .lt 7, 3) := by decide +kernel
theorem dM_wordAt_16 : decode cM_wordAt 16 = .ok (.iconst (-1), 1) := by decide +kernel
theorem dM_wordAt_17 : decode cM_wordAt 17 = .ok (.goto 20, 3) := by decide +kernel
theorem dM_wordAt_20 : decode cM_wordAt 20 = .ok (.aload_n 0, 1) := by decide +kernel
theorem dM_wordAt_21 : decode cM_wordAt 21 = .ok (.getfield 117, 3) := by decide +kernel
theorem dM_wordAt_24 : decode cM_wordAt 24 = .ok (.iconst 2, 1) := by decide +kernel
theorem dM_wordAt_25 : decode cM_wordAt 25 = .ok (.aload_n 0, 1) := by decide +kernel
theorem dM_wordAt_26 : decode cM_wordAt 26 = .ok (.getfield 114, 3) := by decide +kernel
theorem dM_wordAt_29 : decode cM_wordAt 29 = .ok (.iconst 1, 1) := by decide +kernel
theorem dM_wordAt_30 : decode cM_wordAt 30 = .ok (.isub, 1) := by decide +kernel
theorem dM_wordAt_31 : decode cM_wordAt 31 = .ok (.iload_n 1, 1) := by decide +kernel
theorem dM_wordAt_32 : decode cM_wordAt 32 = .ok (.isub, 1) := by decide +kernel
theorem dM_wordAt_33 : decode cM_wordAt 33 = .ok (.imul, 1) := by decide +kernel
theorem dM_wordAt_34 : decode cM_wordAt 34 = .ok (.ishr, 1) := by decide +kernel
theorem dM_wordAt_35 : decode cM_wordAt 35 = .ok (.iconst 3, 1) := by decide +kernel
theorem dM_wordAt_36 : decode cM_wordAt 36 = .ok (.iand, 1) := by decide +kernel
theorem dM_wordAt_37 : decode cM_wordAt 37 = .ok (.ireturn, 1) := by decide +kernel
theorem dM_live_0 : decode cM_live 0 = .ok (.iload_n 1, 1) := by decide +kernel
theorem dM_live_1 : decode cM_live 1 = .ok (.iconst 1, 1) := by decide +kernel
theorem dM_live_2 : decode cM_live 2 = .ok (.if_icmp .lt 11, 3) := by decide +kernel
theorem dM_live_5 : decode cM_live 5 = .ok (.iload_n 1, 1) := by decide +kernel
theorem dM_live_6 : decode cM_live 6 = .ok (.aload_n 0, 1) := by decide +kernel
theorem dM_live_7 : decode cM_live 7 = .ok (.getfield 87, 3) := by decide +kernel
theorem dM_live_10 : decode cM_live 10 = .ok (.if_icmp .le 5, 3) := by decide +kernel
theorem dM_live_13 : decode cM_live 13 = .ok (.iconst 0, 1) := by decide +kernel
theorem dM_live_14 : decode cM_live 14 = .ok (.ireturn, 1) := by decide +kernel
theorem dM_live_15 : decode cM_live 15 = .ok (.aload_n 0, 1) := by decide +kernel
theorem dM_live_16 : decode cM_live 16 = .ok (.iload_n 1, 1) := by decide +kernel
theorem dM_live_17 : decode cM_live 17 = .ok (.invokevirtual 107, 3) := by decide +kernel
theorem dM_live_20 : decode cM_live 20 = .ok (.iconst 0, 1) := by decide +kernel
theorem dM_live_21 : decode cM_live 21 = .ok (.istore_n 2, 1) := by decide +kernel
theorem dM_live_22 : decode cM_live 22 = .ok (.iconst 0, 1) := by decide +kernel
theorem dM_live_23 : decode cM_live 23 = .ok (.istore_n 3, 1) := by decide +kernel
theorem dM_live_24 : decode cM_live 24 = .ok (.iload_n 3, 1) := by decide +kernel
theorem dM_live_25 : decode cM_live 25 = .ok (.sipush 225, 3) := by decide +kernel
theorem dM_live_28 : decode cM_live 28 = .ok (.aload_n 0, 1) := by decide +kernel
theorem dM_live_29 : decode cM_live 29 = .ok (.getfield 60, 3) := by decide +kernel
theorem dM_live_32 : decode cM_live 32 = .ok (.imul, 1) := by decide +kernel
theorem dM_live_33 : decode cM_live 33 = .ok (.if_icmp .ge 49, 3) := by decide +kernel
theorem dM_live_36 : decode cM_live 36 = .ok (.aload_n 0, 1) := by decide +kernel
theorem dM_live_37 : decode cM_live 37 = .ok (.getfield 38, 3) := by decide +kernel
theorem dM_live_40 : decode cM_live 40 = .ok (.iload_n 3, 1) := by decide +kernel
theorem dM_live_41 : decode cM_live 41 = .ok (.iaload, 1) := by decide +kernel
theorem dM_live_42 : decode cM_live 42 = .ok (.ifCond .lt 32, 3) := by decide +kernel
theorem dM_live_45 : decode cM_live 45 = .ok (.aload_n 0, 1) := by decide +kernel
theorem dM_live_46 : decode cM_live 46 = .ok (.iload_n 3, 1) := by decide +kernel
theorem dM_live_47 : decode cM_live 47 = .ok (.sipush 225, 3) := by decide +kernel
theorem dM_live_50 : decode cM_live 50 = .ok (.idiv, 1) := by decide +kernel
theorem dM_live_51 : decode cM_live 51 = .ok (.iload_n 3, 1) := by decide +kernel
theorem dM_live_52 : decode cM_live 52 = .ok (.bipush 25, 2) := by decide +kernel
theorem dM_live_54 : decode cM_live 54 = .ok (.idiv, 1) := by decide +kernel
theorem dM_live_55 : decode cM_live 55 = .ok (.bipush 9, 2) := by decide +kernel
theorem dM_live_57 : decode cM_live 57 = .ok (.irem, 1) := by decide +kernel
theorem dM_live_58 : decode cM_live 58 = .ok (.iconst 3, 1) := by decide +kernel
theorem dM_live_59 : decode cM_live 59 = .ok (.idiv, 1) := by decide +kernel
theorem dM_live_60 : decode cM_live 60 = .ok (.iconst 1, 1) := by decide +kernel
theorem dM_live_61 : decode cM_live 61 = .ok (.iadd, 1) := by decide +kernel
theorem dM_live_62 : decode cM_live 62 = .ok (.invokevirtual 64, 3) := by decide +kernel
theorem dM_live_65 : decode cM_live 65 = .ok (.ifCond .eq 9, 3) := by decide +kernel
theorem dM_live_68 : decode cM_live 68 = .ok (.iload_n 2, 1) := by decide +kernel
theorem dM_live_69 : decode cM_live 69 = .ok (.iconst 1, 1) := by decide +kernel
theorem dM_live_70 : decode cM_live 70 = .ok (.iadd, 1) := by decide +kernel
theorem dM_live_71 : decode cM_live 71 = .ok (.goto 4, 3) := by decide +kernel
theorem dM_live_74 : decode cM_live 74 = .ok (.iload_n 2, 1) := by decide +kernel
theorem dM_live_75 : decode cM_live 75 = .ok (.istore_n 2, 1) := by decide +kernel
theorem dM_live_76 : decode cM_live 76 = .ok (.iinc 3 1, 3) := by decide +kernel
theorem dM_live_79 : decode cM_live 79 = .ok (.goto (-55), 3) := by decide +kernel
theorem dM_live_82 : decode cM_live 82 = .ok (.iload_n 2, 1) := by decide +kernel
theorem dM_live_83 : decode cM_live 83 = .ok (.ireturn, 1) := by decide +kernel
theorem dM_best_0 : decode cM_best 0 = .ok (.iload_n 1, 1) := by decide +kernel
theorem dM_best_1 : decode cM_best 1 = .ok (.iconst 1, 1) := by decide +kernel
theorem dM_best_2 : decode cM_best 2 = .ok (.if_icmp .lt 11, 3) := by decide +kernel
theorem dM_best_5 : decode cM_best 5 = .ok (.iload_n 1, 1) := by decide +kernel
theorem dM_best_6 : decode cM_best 6 = .ok (.aload_n 0, 1) := by decide +kernel
theorem dM_best_7 : decode cM_best 7 = .ok (.getfield 87, 3) := by decide +kernel
theorem dM_best_10 : decode cM_best 10 = .ok (.if_icmp .le 5, 3) := by decide +kernel
theorem dM_best_13 : decode cM_best 13 = .ok (.iconst (-1), 1) := by decide +kernel
theorem dM_best_14 : decode cM_best 14 = .ok (.ireturn, 1) := by decide +kernel
theorem dM_best_15 : decode cM_best 15 = .ok (.aload_n 0, 1) := by decide +kernel
theorem dM_best_16 : decode cM_best 16 = .ok (.iload_n 1, 1) := by decide +kernel
theorem dM_best_17 : decode cM_best 17 = .ok (.invokevirtual 107, 3) := by decide +kernel
theorem dM_best_20 : decode cM_best 20 = .ok (.iconst (-1), 1) := by decide +kernel
theorem dM_best_21 : decode cM_best 21 = .ok (.istore_n 2, 1) := by decide +kernel
theorem dM_best_22 : decode cM_best 22 = .ok (.iconst 0, 1) := by decide +kernel
theorem dM_best_23 : decode cM_best 23 = .ok (.istore_n 3, 1) := by decide +kernel
theorem dM_best_24 : decode cM_best 24 = .ok (.iload_n 3, 1) := by decide +kernel
theorem dM_best_25 : decode cM_best 25 = .ok (.sipush 1800, 3) := by decide +kernel
theorem dM_best_28 : decode cM_best 28 = .ok (.if_icmp .ge 43, 3) := by decide +kernel
theorem dM_best_31 : decode cM_best 31 = .ok (.aload_n 0, 1) := by decide +kernel
theorem dM_best_32 : decode cM_best 32 = .ok (.getfield 38, 3) := by decide +kernel
theorem dM_best_35 : decode cM_best 35 = .ok (.iload_n 3, 1) := by decide +kernel
theorem dM_best_36 : decode cM_best 36 = .ok (.iaload, 1) := by decide +kernel
theorem dM_best_37 : decode cM_best 37 = .ok (.ifCond .lt 26, 3) := by decide +kernel
theorem dM_best_40 : decode cM_best 40 = .ok (.iload_n 2, 1) := by decide +kernel
theorem dM_best_41 : decode cM_best 41 = .ok (.ifCond .lt 13, 3) := by decide +kernel
theorem dM_best_44 : decode cM_best 44 = .ok (.aload_n 0, 1) := by decide +kernel
theorem dM_best_45 : decode cM_best 45 = .ok (.getfield 38, 3) := by decide +kernel
theorem dM_best_48 : decode cM_best 48 = .ok (.iload_n 3, 1) := by decide +kernel
theorem dM_best_49 : decode cM_best 49 = .ok (.iaload, 1) := by decide +kernel
theorem dM_best_50 : decode cM_best 50 = .ok (.iload_n 2, 1) := by decide +kernel
theorem dM_best_51 : decode cM_best 51 = .ok (.if_icmp .ge 12, 3) := by decide +kernel
theorem dM_best_54 : decode cM_best 54 = .ok (.aload_n 0, 1) := by decide +kernel
theorem dM_best_55 : decode cM_best 55 = .ok (.getfield 38, 3) := by decide +kernel
theorem dM_best_58 : decode cM_best 58 = .ok (.iload_n 3, 1) := by decide +kernel
theorem dM_best_59 : decode cM_best 59 = .ok (.iaload, 1) := by decide +kernel
theorem dM_best_60 : decode cM_best 60 = .ok (.goto 4, 3) := by decide +kernel
theorem dM_best_63 : decode cM_best 63 = .ok (.iload_n 2, 1) := by decide +kernel
theorem dM_best_64 : decode cM_best 64 = .ok (.istore_n 2, 1) := by decide +kernel
theorem dM_best_65 : decode cM_best 65 = .ok (.iinc 3 1, 3) := by decide +kernel
theorem dM_best_68 : decode cM_best 68 = .ok (.goto (-44), 3) := by decide +kernel
theorem dM_best_71 : decode cM_best 71 = .ok (.iload_n 2, 1) := by decide +kernel
theorem dM_best_72 : decode cM_best 72 = .ok (.ireturn, 1) := by decide +kernel
end
section
/-! numbers, folds, small values -/
def wt_bI (b : Bool) : Int32 := match b with | true => 1 | false => 0
theorem wt_bI_1 : wt_bI true = 1 := rfl
theorem wt_bI_0 : wt_bI false = 0 := rfl
theorem wt_bI_eq0 {b : Bool} : wt_bI b = 0 ↔ b = false := by cases b <;> decide
theorem wt_bI_nar (b : Bool) : narrow .boolean (.int (wt_bI b)) = .int (wt_bI b) := by cases b <;> rfl
theorem wt_bI_vnar (b : Bool) : vp_nar .boolean (wt_bI b) = wt_bI b := by cases b <;> rfl
def wt_up {σ : Type} (step : Nat → σ → σ) : Nat → Nat → σ → σ
  | 0, _, x => x
  | n + 1, i, x => wt_up step n (i + 1) (step i x)
def wt_dn {σ : Type} (step : Nat → σ → σ) : Nat → σ → σ
  | 0, x => x
  | n + 1, x => wt_dn step n (step n x)
theorem wt_up_ge {σ : Type} {step : Nat → σ → σ} {B i : Nat} {x : σ} (h : B ≤ i) : wt_up step (B - i) i x = x := by
  rw [Nat.sub_eq_zero_of_le h]; rfl
theorem wt_up_lt {σ : Type} {step : Nat → σ → σ} {B i : Nat} {x : σ} (h : i < B) : wt_up step (B - i) i x = wt_up step (B - (i + 1)) (i + 1) (step i x) := by
  rw [show B - i = (B - (i + 1)) + 1 by omega]; rfl
/-- 1 where 0 ≤ x < n, else 0 -/
def wt_rng (x : Int32) (n : Nat) : Int32 := wt_bI (decide (0 ≤ x.toInt ∧ x.toInt < n))
theorem wt_rng_1 {x : Int32} {n : Nat} (h1 : 0 ≤ x.toInt) (h2 : x.toInt < n) : wt_rng x n = 1 := by
  unfold wt_rng; rw [decide_eq_true ⟨h1, h2⟩]; rfl
theorem wt_rng_0 {x : Int32} {n : Nat} (h : ¬ (0 ≤ x.toInt ∧ x.toInt < n)) : wt_rng x n = 0 := by
  unfold wt_rng; rw [decide_eq_false h]; rfl
theorem wt_rng_of {x : Int32} {n : Nat} (hn : n < 2 ^ 31) (h : ¬ wt_rng x n = 0) : ∃ j : Nat, j < n ∧ x = nI j := by
  by_cases q : 0 ≤ x.toInt ∧ x.toInt < n
  · exact vp_in_of (vp_in_iff.mpr q) hn
  · exact absurd (wt_rng_0 q) h
theorem wt_rng_nI {j n : Nat} (h : j < n) (hn : n < 2 ^ 31) : wt_rng (nI j) n = 1 := wt_rng_1 (by rw [nI_toInt (Nat.lt_trans h hn)]; omega) (by rw [nI_toInt (Nat.lt_trans h hn)]; omega)
theorem wt_rng_nI0 {j n : Nat} (h : n ≤ j) (hj : j < 2 ^ 31) : wt_rng (nI j) n = 0 := wt_rng_0 (by rw [nI_toInt hj]; omega)
theorem wt_rng_m1 (n : Nat) : wt_rng (-1) n = 0 := wt_rng_0 (by rw [show (-1 : Int32).toInt = -1 by decide]; omega)
theorem wt_nI_nem1 {j : Nat} (h : j < 2 ^ 31) : ¬ nI j = -1 := fun q => absurd (congrArg Int32.toInt q) (by rw [nI_toInt h, show (-1 : Int32).toInt = -1 by decide]; omega)
theorem wt_inc1 (x : Nat) : nI x + Int32.ofInt 1 = nI (x + 1) := by rw [show Int32.ofInt 1 = 1 by decide]; exact nI_1 x
theorem wt_dec1 (x : Nat) : nI (x + 1) + Int32.ofInt (-1) = nI x := by rw [show Int32.ofInt (-1) = -1 by decide]; exact pk_m1 x
theorem wt_dec0 : nI 0 + Int32.ofInt (-1) = -1 := by decide
theorem wt_updN (g : Nat → Nat) (k v : Nat) : upd (fun j => nI (g j)) k (nI v) = fun j => nI (va_up g k v j) := by
  funext j; simp only [upd, va_up]; split <;> rfl
theorem wt_updB (g : Nat → Bool) (k : Nat) (v : Bool) : upd (fun j => wt_bI (g j)) k (wt_bI v) = fun j => wt_bI (va_up g k v j) := by
  funext j; simp only [upd, va_up]; split <;> rfl
theorem wt_fm {α β : Type} (f : α → Option β) : ∀ (is : List α) (w : List β), is.map f = w.map some → is.filterMap f = w
  | [], [], _ => rfl
  | [], b :: w, h => by simp at h
  | a :: is, [], h => by simp at h
  | a :: is, b :: w, h => by
    simp only [List.map_cons, List.cons.injEq] at h
    rw [List.filterMap_cons, h.1]
    simp only
    rw [wt_fm f is w h.2]
theorem wt_RA_inj {U : State} {cA cB : ClassId} {ty : FieldType} (h1 : va_RA U cA ty) (h2 : va_RA U cB ty) : cA = cB := by
  cases ty with
  | object C =>
    obtain ⟨_, _, _, _, _, h1⟩ := h1
    obtain ⟨_, _, _, _, _, h2⟩ := h2
    exact Option.some.inj (h1.symm.trans h2)
  | _ => exact Option.some.inj (Eq.trans (Eq.symm h1) h2)
/-- what a method that reads, and one that writes, begins with -/
def wt_ro (D : va_G) (cl : List vw_C) (tys : List (ClassId × FieldType)) (wc : va_W) : State → Prop := fun U => va_P D cl wc U.heap ∧ va_K D cl tys U ∧ wt_nest U
def wt_rw (D : va_G) (cl : List vw_C) (tys : List (ClassId × FieldType)) (wc : va_W) (sz : Nat) : State → Prop := fun U => U.heap.size = sz ∧ va_P D cl wc U.heap ∧ va_K D cl tys U ∧ wt_nest U ∧ va_D (fun _ => True) wc
def wt_B (D : va_G) (cl : List vw_C) (A : Nat → Prop) (w1 : va_W) : Unit → State → Prop := fun _ t => va_P D cl w1 t.heap ∧ va_D A w1
section WTR
variable {p : Program} {l : Launch} {e : Env} {R : Room} {s : State} {m : MethodId} {args : Array Value} {below : List Frame} {meth : Method} {c : Code} {H : Heap} {locs : List Loc} {cells slots : Nat} {Q : State → Prop}
variable {pc : Nat} {ls : Array Slot} {rest : List Value} {cc : ByteArray} {D : va_G} {cl : List vw_C} {tys : List (ClassId × FieldType)} {ws : va_W} {A : Nat → Prop} {H0 : Heap} {a : Nat}
theorem wt_iadd (hx : p.tables.exec = Jvm.exec) (hb : c.code = cc) {x y : Nat} (hdg : decode cc pc = .ok (.iadd, 1)) (k : W p l e R s m args below meth c H locs cells slots Q (F0 m (pc + 1) ls (.int (nI (x + y)) :: rest))) : W p l e R s m args below meth c H locs cells slots Q (F0 m pc ls (.int (nI y) :: .int (nI x) :: rest)) := lv_iadd hx hb hdg (by rw [nI_add]; exact k)
theorem wt_imul (hx : p.tables.exec = Jvm.exec) (hb : c.code = cc) {x y : Nat} (hdg : decode cc pc = .ok (.imul, 1)) (k : W p l e R s m args below meth c H locs cells slots Q (F0 m (pc + 1) ls (.int (nI (x * y)) :: rest))) : W p l e R s m args below meth c H locs cells slots Q (F0 m pc ls (.int (nI y) :: .int (nI x) :: rest)) := lv_imul hx hb hdg (by rw [pk_mul]; exact k)
theorem wt_isub (hx : p.tables.exec = Jvm.exec) (hb : c.code = cc) {x y : Nat} (hdg : decode cc pc = .ok (.isub, 1)) (h : y ≤ x) (k : W p l e R s m args below meth c H locs cells slots Q (F0 m (pc + 1) ls (.int (nI (x - y)) :: rest))) : W p l e R s m args below meth c H locs cells slots Q (F0 m pc ls (.int (nI y) :: .int (nI x) :: rest)) := lv_isub hx hb hdg (by rw [pk_sub h]; exact k)
theorem wt_idiv (hx : p.tables.exec = Jvm.exec) (hb : c.code = cc) {x y : Nat} (hdg : decode cc pc = .ok (.idiv, 1)) (bx : x < 2 ^ 31) (h0 : 0 < y) (hy : y < 2 ^ 31) (k : W p l e R s m args below meth c H locs cells slots Q (F0 m (pc + 1) ls (.int (nI (x / y)) :: rest))) : W p l e R s m args below meth c H locs cells slots Q (F0 m pc ls (.int (nI y) :: .int (nI x) :: rest)) := lv_idiv hx hb hdg (nI_ne0 h0 hy) (by rw [pk_div bx h0 hy]; exact k)
theorem wt_irem (hx : p.tables.exec = Jvm.exec) (hb : c.code = cc) {x y : Nat} (hdg : decode cc pc = .ok (.irem, 1)) (bx : x < 2 ^ 31) (h0 : 0 < y) (hy : y < 2 ^ 31) (k : W p l e R s m args below meth c H locs cells slots Q (F0 m (pc + 1) ls (.int (nI (x % y)) :: rest))) : W p l e R s m args below meth c H locs cells slots Q (F0 m pc ls (.int (nI y) :: .int (nI x) :: rest)) := lv_irem hx hb hdg (nI_ne0 h0 hy) (by rw [pk_rem bx h0 hy]; exact k)
theorem wt_icmp_eq (hx : p.tables.exec = Jvm.exec) (hb : c.code = cc) {x y : Nat} {off : Int} {tgt : Nat} (hdg : decode cc pc = .ok (.if_icmp .eq off, 3)) (ht : (pc : Int) + off = (tgt : Int)) (bx : x < 2 ^ 31) (hy : y < 2 ^ 31) (kt : x = y → W p l e R s m args below meth c H locs cells slots Q (F0 m tgt ls rest)) (kf : ¬ x = y → W p l e R s m args below meth c H locs cells slots Q (F0 m (pc + 3) ls rest)) : W p l e R s m args below meth c H locs cells slots Q (F0 m pc ls (.int (nI y) :: .int (nI x) :: rest)) := lv_icmp_eq hx hb hdg ht (fun h => kt ((nI_eq bx hy).mp h)) (fun h => kf (fun q => h ((nI_eq bx hy).mpr q)))
theorem wt_icmp_ne (hx : p.tables.exec = Jvm.exec) (hb : c.code = cc) {x y : Nat} {off : Int} {tgt : Nat} (hdg : decode cc pc = .ok (.if_icmp .ne off, 3)) (ht : (pc : Int) + off = (tgt : Int)) (bx : x < 2 ^ 31) (hy : y < 2 ^ 31) (kt : ¬ x = y → W p l e R s m args below meth c H locs cells slots Q (F0 m tgt ls rest)) (kf : x = y → W p l e R s m args below meth c H locs cells slots Q (F0 m (pc + 3) ls rest)) : W p l e R s m args below meth c H locs cells slots Q (F0 m pc ls (.int (nI y) :: .int (nI x) :: rest)) := lv_icmp_ne hx hb hdg ht (fun h => kt (fun q => h ((nI_eq bx hy).mpr q))) (fun h => kf ((nI_eq bx hy).mp h))
theorem wt_icmp_lt (hx : p.tables.exec = Jvm.exec) (hb : c.code = cc) {x y : Nat} {off : Int} {tgt : Nat} (hdg : decode cc pc = .ok (.if_icmp .lt off, 3)) (ht : (pc : Int) + off = (tgt : Int)) (bx : x < 2 ^ 31) (hy : y < 2 ^ 31) (kt : x < y → W p l e R s m args below meth c H locs cells slots Q (F0 m tgt ls rest)) (kf : y ≤ x → W p l e R s m args below meth c H locs cells slots Q (F0 m (pc + 3) ls rest)) : W p l e R s m args below meth c H locs cells slots Q (F0 m pc ls (.int (nI y) :: .int (nI x) :: rest)) := lv_icmp_lt hx hb hdg ht (fun h => kt ((nI_ltI bx hy).mp h)) (fun h => kf (Nat.le_of_not_lt fun q => h ((nI_ltI bx hy).mpr q)))
theorem wt_icmp_ge (hx : p.tables.exec = Jvm.exec) (hb : c.code = cc) {x y : Nat} {off : Int} {tgt : Nat} (hdg : decode cc pc = .ok (.if_icmp .ge off, 3)) (ht : (pc : Int) + off = (tgt : Int)) (bx : x < 2 ^ 31) (hy : y < 2 ^ 31) (kt : y ≤ x → W p l e R s m args below meth c H locs cells slots Q (F0 m tgt ls rest)) (kf : x < y → W p l e R s m args below meth c H locs cells slots Q (F0 m (pc + 3) ls rest)) : W p l e R s m args below meth c H locs cells slots Q (F0 m pc ls (.int (nI y) :: .int (nI x) :: rest)) := lv_icmp_ge hx hb hdg ht (fun h => kt ((nI_leI hy bx).mp h)) (fun h => kf (Nat.lt_of_not_le fun q => h ((nI_leI hy bx).mpr q)))
theorem wt_icmp_gt (hx : p.tables.exec = Jvm.exec) (hb : c.code = cc) {x y : Nat} {off : Int} {tgt : Nat} (hdg : decode cc pc = .ok (.if_icmp .gt off, 3)) (ht : (pc : Int) + off = (tgt : Int)) (bx : x < 2 ^ 31) (hy : y < 2 ^ 31) (kt : y < x → W p l e R s m args below meth c H locs cells slots Q (F0 m tgt ls rest)) (kf : x ≤ y → W p l e R s m args below meth c H locs cells slots Q (F0 m (pc + 3) ls rest)) : W p l e R s m args below meth c H locs cells slots Q (F0 m pc ls (.int (nI y) :: .int (nI x) :: rest)) := lv_icmp_gt hx hb hdg ht (fun h => kt ((nI_ltI hy bx).mp h)) (fun h => kf (Nat.le_of_not_lt fun q => h ((nI_ltI hy bx).mpr q)))
theorem wt_icmp_le (hx : p.tables.exec = Jvm.exec) (hb : c.code = cc) {x y : Nat} {off : Int} {tgt : Nat} (hdg : decode cc pc = .ok (.if_icmp .le off, 3)) (ht : (pc : Int) + off = (tgt : Int)) (bx : x < 2 ^ 31) (hy : y < 2 ^ 31) (kt : x ≤ y → W p l e R s m args below meth c H locs cells slots Q (F0 m tgt ls rest)) (kf : y < x → W p l e R s m args below meth c H locs cells slots Q (F0 m (pc + 3) ls rest)) : W p l e R s m args below meth c H locs cells slots Q (F0 m pc ls (.int (nI y) :: .int (nI x) :: rest)) := lv_icmp_le hx hb hdg ht (fun h => kt ((nI_leI bx hy).mp h)) (fun h => kf (Nat.lt_of_not_le fun q => h ((nI_leI bx hy).mpr q)))
theorem wt_z {x : Nat} (bx : x < 2 ^ 31) : (nI x = 0 ↔ x = 0) := by rw [← nI_0]; exact nI_eq bx (by decide)
theorem wt_zl {x : Nat} (bx : x < 2 ^ 31) : (nI x ≤ 0 ↔ x = 0) := by rw [← nI_0, nI_leI bx (by decide)]; omega
theorem wt_zg {x : Nat} (bx : x < 2 ^ 31) : (0 < nI x ↔ 0 < x) := by rw [← nI_0]; exact nI_ltI (by decide) bx
theorem wt_if_eq (hx : p.tables.exec = Jvm.exec) (hb : c.code = cc) {x : Nat} {off : Int} {tgt : Nat} (hdg : decode cc pc = .ok (.ifCond .eq off, 3)) (ht : (pc : Int) + off = (tgt : Int)) (bx : x < 2 ^ 31) (kt : x = 0 → W p l e R s m args below meth c H locs cells slots Q (F0 m tgt ls rest)) (kf : 0 < x → W p l e R s m args below meth c H locs cells slots Q (F0 m (pc + 3) ls rest)) : W p l e R s m args below meth c H locs cells slots Q (F0 m pc ls (.int (nI x) :: rest)) := lv_if_eq hx hb hdg ht (fun h => kt ((wt_z bx).mp h)) (fun h => kf (Nat.pos_of_ne_zero fun q => h ((wt_z bx).mpr q)))
theorem wt_if_ne (hx : p.tables.exec = Jvm.exec) (hb : c.code = cc) {x : Nat} {off : Int} {tgt : Nat} (hdg : decode cc pc = .ok (.ifCond .ne off, 3)) (ht : (pc : Int) + off = (tgt : Int)) (bx : x < 2 ^ 31) (kt : 0 < x → W p l e R s m args below meth c H locs cells slots Q (F0 m tgt ls rest)) (kf : x = 0 → W p l e R s m args below meth c H locs cells slots Q (F0 m (pc + 3) ls rest)) : W p l e R s m args below meth c H locs cells slots Q (F0 m pc ls (.int (nI x) :: rest)) := lv_if_ne hx hb hdg ht (fun h => kt (Nat.pos_of_ne_zero fun q => h ((wt_z bx).mpr q))) (fun h => kf ((wt_z bx).mp h))
theorem wt_if_gt (hx : p.tables.exec = Jvm.exec) (hb : c.code = cc) {x : Nat} {off : Int} {tgt : Nat} (hdg : decode cc pc = .ok (.ifCond .gt off, 3)) (ht : (pc : Int) + off = (tgt : Int)) (bx : x < 2 ^ 31) (kt : 0 < x → W p l e R s m args below meth c H locs cells slots Q (F0 m tgt ls rest)) (kf : x = 0 → W p l e R s m args below meth c H locs cells slots Q (F0 m (pc + 3) ls rest)) : W p l e R s m args below meth c H locs cells slots Q (F0 m pc ls (.int (nI x) :: rest)) := lv_if_gt hx hb hdg ht (fun h => kt ((wt_zg bx).mp h)) (fun h => kf (Nat.eq_zero_of_not_pos fun q => h ((wt_zg bx).mpr q)))
theorem wt_if_le (hx : p.tables.exec = Jvm.exec) (hb : c.code = cc) {x : Nat} {off : Int} {tgt : Nat} (hdg : decode cc pc = .ok (.ifCond .le off, 3)) (ht : (pc : Int) + off = (tgt : Int)) (bx : x < 2 ^ 31) (kt : x = 0 → W p l e R s m args below meth c H locs cells slots Q (F0 m tgt ls rest)) (kf : 0 < x → W p l e R s m args below meth c H locs cells slots Q (F0 m (pc + 3) ls rest)) : W p l e R s m args below meth c H locs cells slots Q (F0 m pc ls (.int (nI x) :: rest)) := lv_if_le hx hb hdg ht (fun h => kt ((wt_zl bx).mp h)) (fun h => kf (Nat.pos_of_ne_zero fun q => h ((wt_zl bx).mpr q)))
theorem wt_if_lt (hx : p.tables.exec = Jvm.exec) (hb : c.code = cc) {x : Nat} {off : Int} {tgt : Nat} (hdg : decode cc pc = .ok (.ifCond .lt off, 3)) (ht : (pc : Int) + off = (tgt : Int)) (bx : x < 2 ^ 31) (kf : W p l e R s m args below meth c H locs cells slots Q (F0 m (pc + 3) ls rest)) : W p l e R s m args below meth c H locs cells slots Q (F0 m pc ls (.int (nI x) :: rest)) := lv_if_lt hx hb hdg ht (fun h => absurd h (nI_pos bx)) (fun _ => kf)
theorem wt_if_ge (hx : p.tables.exec = Jvm.exec) (hb : c.code = cc) {x : Nat} {off : Int} {tgt : Nat} (hdg : decode cc pc = .ok (.ifCond .ge off, 3)) (ht : (pc : Int) + off = (tgt : Int)) (bx : x < 2 ^ 31) (kt : W p l e R s m args below meth c H locs cells slots Q (F0 m tgt ls rest)) : W p l e R s m args below meth c H locs cells slots Q (F0 m pc ls (.int (nI x) :: rest)) := lv_if_ge hx hb hdg ht (fun _ => kt) (fun h => absurd (nI_pos' bx) h)
theorem wt_bif_eq (hx : p.tables.exec = Jvm.exec) (hb : c.code = cc) {x : Bool} {off : Int} {tgt : Nat} (hdg : decode cc pc = .ok (.ifCond .eq off, 3)) (ht : (pc : Int) + off = (tgt : Int)) (kt : x = false → W p l e R s m args below meth c H locs cells slots Q (F0 m tgt ls rest)) (kf : x = true → W p l e R s m args below meth c H locs cells slots Q (F0 m (pc + 3) ls rest)) : W p l e R s m args below meth c H locs cells slots Q (F0 m pc ls (.int (wt_bI x) :: rest)) := lv_if_eq hx hb hdg ht (fun h => kt (wt_bI_eq0.mp h)) (fun h => kf (by cases x with | true => rfl | false => exact absurd rfl h))
theorem wt_bif_ne (hx : p.tables.exec = Jvm.exec) (hb : c.code = cc) {x : Bool} {off : Int} {tgt : Nat} (hdg : decode cc pc = .ok (.ifCond .ne off, 3)) (ht : (pc : Int) + off = (tgt : Int)) (kt : x = true → W p l e R s m args below meth c H locs cells slots Q (F0 m tgt ls rest)) (kf : x = false → W p l e R s m args below meth c H locs cells slots Q (F0 m (pc + 3) ls rest)) : W p l e R s m args below meth c H locs cells slots Q (F0 m pc ls (.int (wt_bI x) :: rest)) := lv_if_ne hx hb hdg ht (fun h => kt (by cases x with | true => rfl | false => exact absurd rfl h)) (fun h => kf (wt_bI_eq0.mp h))
theorem wt_lif_eq (hx : p.tables.exec = Jvm.exec) (hb : c.code = cc) {x y : Int64} {off : Int} {tgt : Nat} (hdg : decode cc pc = .ok (.ifCond .eq off, 3)) (ht : (pc : Int) + off = (tgt : Int)) (kt : x = y → W p l e R s m args below meth c H locs cells slots Q (F0 m tgt ls rest)) (kf : ¬ x = y → W p l e R s m args below meth c H locs cells slots Q (F0 m (pc + 3) ls rest)) : W p l e R s m args below meth c H locs cells slots Q (F0 m pc ls (.int (lg_cmp x y) :: rest)) := lv_if_eq hx hb hdg ht (fun h => kt ((lg_cmp_eq x y).mp h)) (fun h => kf (fun q => h ((lg_cmp_eq x y).mpr q)))
theorem wt_lif_ne (hx : p.tables.exec = Jvm.exec) (hb : c.code = cc) {x y : Int64} {off : Int} {tgt : Nat} (hdg : decode cc pc = .ok (.ifCond .ne off, 3)) (ht : (pc : Int) + off = (tgt : Int)) (kt : ¬ x = y → W p l e R s m args below meth c H locs cells slots Q (F0 m tgt ls rest)) (kf : x = y → W p l e R s m args below meth c H locs cells slots Q (F0 m (pc + 3) ls rest)) : W p l e R s m args below meth c H locs cells slots Q (F0 m pc ls (.int (lg_cmp x y) :: rest)) := lv_if_ne hx hb hdg ht (fun h => kt (fun q => h ((lg_cmp_eq x y).mpr q))) (fun h => kf ((lg_cmp_eq x y).mp h))
theorem wt_iald (hx : p.tables.exec = Jvm.exec) (hb : c.code = cc) (hK : va_K D cl tys s) (hP : va_P D cl ws H) (q0 t0 : Nat) {cA : ClassId} {n : Nat} {f : Nat → Int32} (ha : ws[q0]? = some (a, .inl (cA, n, .inl f))) (ht : tys[t0]? = some (cA, .int)) {k : Nat} (hk : k < n) (hn : n < 2 ^ 31) (hdg : decode cc pc = .ok (.iaload, 1)) (kk : W p l e R s m args below meth c H locs cells slots Q (F0 m (pc + 1) ls (.int (f k) :: rest))) : W p l e R s m args below meth c H locs cells slots Q (F0 m pc ls (.int (nI k) :: .ref a :: rest)) := va_iald hx hb hK hP q0 t0 ha ht (vp_in_nI hk hn) hdg (by rw [nI_clamp (Nat.lt_trans hk hn)]; exact kk)
theorem wt_ialdN (hx : p.tables.exec = Jvm.exec) (hb : c.code = cc) (hK : va_K D cl tys s) (hP : va_P D cl ws H) (q0 t0 : Nat) {cA : ClassId} {n : Nat} {f : Nat → Nat} (ha : ws[q0]? = some (a, .inl (cA, n, .inl (fun j => nI (f j))))) (ht : tys[t0]? = some (cA, .int)) {k : Nat} (hk : k < n) (hn : n < 2 ^ 31) (hdg : decode cc pc = .ok (.iaload, 1)) (kk : W p l e R s m args below meth c H locs cells slots Q (F0 m (pc + 1) ls (.int (nI (f k)) :: rest))) : W p l e R s m args below meth c H locs cells slots Q (F0 m pc ls (.int (nI k) :: .ref a :: rest)) := va_iald hx hb hK hP q0 t0 ha ht (vp_in_nI hk hn) hdg (by rw [nI_clamp (Nat.lt_trans hk hn)]; exact kk)
theorem wt_zald (hx : p.tables.exec = Jvm.exec) (hb : c.code = cc) (hK : va_K D cl tys s) (hP : va_P D cl ws H) (q0 t0 : Nat) {cA : ClassId} {n : Nat} {f : Nat → Bool} (ha : ws[q0]? = some (a, .inl (cA, n, .inl (fun j => wt_bI (f j))))) (ht : tys[t0]? = some (cA, .boolean)) {k : Nat} (hk : k < n) (hn : n < 2 ^ 31) (hdg : decode cc pc = .ok (.baload, 1)) (kk : W p l e R s m args below meth c H locs cells slots Q (F0 m (pc + 1) ls (.int (wt_bI (f k)) :: rest))) : W p l e R s m args below meth c H locs cells slots Q (F0 m pc ls (.int (nI k) :: .ref a :: rest)) := va_zald hx hb hK hP q0 t0 ha ht (vp_in_nI hk hn) hdg (by rw [nI_clamp (Nat.lt_trans hk hn)]; exact kk)
theorem wt_lald (hx : p.tables.exec = Jvm.exec) (hb : c.code = cc) (hK : va_K D cl tys s) (hP : va_P D cl ws H) (q0 t0 : Nat) {cA : ClassId} {n : Nat} {f : Nat → Int64} (ha : ws[q0]? = some (a, .inl (cA, n, .inr (.inl f)))) (ht : tys[t0]? = some (cA, .long)) {k : Nat} (hk : k < n) (hn : n < 2 ^ 31) (hdg : decode cc pc = .ok (.laload, 1)) (kk : W p l e R s m args below meth c H locs cells slots Q (F0 m (pc + 1) ls (.long (f k) :: rest))) : W p l e R s m args below meth c H locs cells slots Q (F0 m pc ls (.int (nI k) :: .ref a :: rest)) := va_lald hx hb hK hP q0 t0 ha ht (vp_in_nI hk hn) hdg (by rw [nI_clamp (Nat.lt_trans hk hn)]; exact kk)
theorem wt_iast (hx : p.tables.exec = Jvm.exec) (hb : c.code = cc) (hK : va_K D cl tys s) (hP : va_P D cl ws H) (hD : va_D A ws) (hS : va_S A H0 H locs) (q0 t0 : Nat) {cA : ClassId} {n : Nat} {f : Nat → Int32} (ha : ws[q0]? = some (a, .inl (cA, n, .inl f))) (ht : tys[t0]? = some (cA, .int)) {k : Nat} {x : Int32} (hk : k < n) (hn : n < 2 ^ 31) (hdg : decode cc pc = .ok (.iastore, 1)) (kk : ∀ (H1 : Heap) (locs1 : List Loc), va_P D cl (ws.set q0 (a, .inl (cA, n, .inl (upd f k x)))) H1 → va_D A (ws.set q0 (a, .inl (cA, n, .inl (upd f k x)))) → va_S A H0 H1 locs1 → W p l e R s m args below meth c H1 locs1 cells slots Q (F0 m (pc + 1) ls rest)) : W p l e R s m args below meth c H locs cells slots Q (F0 m pc ls (.int x :: .int (nI k) :: .ref a :: rest)) := va_iast hx hb hK hP hD hS q0 t0 ha ht (vp_in_nI hk hn) hdg (by rw [nI_clamp (Nat.lt_trans hk hn)]; exact kk)
theorem wt_iastN (hx : p.tables.exec = Jvm.exec) (hb : c.code = cc) (hK : va_K D cl tys s) (hP : va_P D cl ws H) (hD : va_D A ws) (hS : va_S A H0 H locs) (q0 t0 : Nat) {cA : ClassId} {n : Nat} {f : Nat → Nat} (ha : ws[q0]? = some (a, .inl (cA, n, .inl (fun j => nI (f j))))) (ht : tys[t0]? = some (cA, .int)) {k : Nat} {x : Nat} (hk : k < n) (hn : n < 2 ^ 31) (hdg : decode cc pc = .ok (.iastore, 1)) (kk : ∀ (H1 : Heap) (locs1 : List Loc), va_P D cl (ws.set q0 (a, .inl (cA, n, .inl (fun j => nI (va_up f k x j))))) H1 → va_D A (ws.set q0 (a, .inl (cA, n, .inl (fun j => nI (va_up f k x j))))) → va_S A H0 H1 locs1 → W p l e R s m args below meth c H1 locs1 cells slots Q (F0 m (pc + 1) ls rest)) : W p l e R s m args below meth c H locs cells slots Q (F0 m pc ls (.int (nI x) :: .int (nI k) :: .ref a :: rest)) := va_iast hx hb hK hP hD hS q0 t0 ha ht (vp_in_nI hk hn) hdg (by rw [nI_clamp (Nat.lt_trans hk hn), wt_updN]; exact kk)
theorem wt_zast (hx : p.tables.exec = Jvm.exec) (hb : c.code = cc) (hK : va_K D cl tys s) (hP : va_P D cl ws H) (hD : va_D A ws) (hS : va_S A H0 H locs) (q0 t0 : Nat) {cA : ClassId} {n : Nat} {f : Nat → Bool} (ha : ws[q0]? = some (a, .inl (cA, n, .inl (fun j => wt_bI (f j))))) (ht : tys[t0]? = some (cA, .boolean)) {k : Nat} {x : Bool} (hk : k < n) (hn : n < 2 ^ 31) (hdg : decode cc pc = .ok (.bastore, 1)) (kk : ∀ (H1 : Heap) (locs1 : List Loc), va_P D cl (ws.set q0 (a, .inl (cA, n, .inl (fun j => wt_bI (va_up f k x j))))) H1 → va_D A (ws.set q0 (a, .inl (cA, n, .inl (fun j => wt_bI (va_up f k x j))))) → va_S A H0 H1 locs1 → W p l e R s m args below meth c H1 locs1 cells slots Q (F0 m (pc + 1) ls rest)) : W p l e R s m args below meth c H locs cells slots Q (F0 m pc ls (.int (wt_bI x) :: .int (nI k) :: .ref a :: rest)) := va_zast hx hb hK hP hD hS q0 t0 ha ht (vp_in_nI hk hn) hdg (by rw [nI_clamp (Nat.lt_trans hk hn), wt_bI_vnar, wt_updB]; exact kk)
theorem wt_last (hx : p.tables.exec = Jvm.exec) (hb : c.code = cc) (hK : va_K D cl tys s) (hP : va_P D cl ws H) (hD : va_D A ws) (hS : va_S A H0 H locs) (q0 t0 : Nat) {cA : ClassId} {n : Nat} {f : Nat → Int64} (ha : ws[q0]? = some (a, .inl (cA, n, .inr (.inl f)))) (ht : tys[t0]? = some (cA, .long)) {k : Nat} {x : Int64} (hk : k < n) (hn : n < 2 ^ 31) (hdg : decode cc pc = .ok (.lastore, 1)) (kk : ∀ (H1 : Heap) (locs1 : List Loc), va_P D cl (ws.set q0 (a, .inl (cA, n, .inr (.inl (vp_updL f k x))))) H1 → va_D A (ws.set q0 (a, .inl (cA, n, .inr (.inl (vp_updL f k x))))) → va_S A H0 H1 locs1 → W p l e R s m args below meth c H1 locs1 cells slots Q (F0 m (pc + 1) ls rest)) : W p l e R s m args below meth c H locs cells slots Q (F0 m pc ls (.long x :: .int (nI k) :: .ref a :: rest)) := va_last hx hb hK hP hD hS q0 t0 ha ht (vp_in_nI hk hn) hdg (by rw [nI_clamp (Nat.lt_trans hk hn)]; exact kk)
theorem wt_newa (hx : p.tables.exec = Jvm.exec) (hb : c.code = cc) {atype : ArrayType} (harr : (Cond.arrayClass (newarray.typeOf atype)).before args s = true) {ty : FieldType} (hty : newarray.typeOf atype = ty) (hK : va_K D cl tys s) (hP : va_P D cl ws H) (hD : va_D A ws) (hS : va_S A H0 H locs) (hA : ∀ q, H0.size ≤ q → A q) (t0 : Nat) {cA : ClassId} (ht : tys[t0]? = some (cA, ty)) {n : Int32} {N' : Nat} {a0 : vp_A} (ha : ∀ cA : ClassId, vp_cell cA a0 = arrV cA N' (fun _ => defaultValue ty)) (hn : ¬ n < 0) (hN : n.toNatClampNeg = N') (hbytes : N' * componentBytes ty ≤ 536870912) (hcells : cells + 1 ≤ R.cells) (hslots : slots + N' ≤ R.slots) (hdg : decode cc pc = .ok (.newarray atype, 2))
    (kk : ∀ (q : Nat) (H1 : Heap), va_P D cl (ws ++ [(q, .inl (cA, a0))]) H1 → va_D A (ws ++ [(q, .inl (cA, a0))]) → va_S A H0 H1 locs → W p l e R s m args below meth c H1 locs (cells + 1) (slots + N') Q (F0 m (pc + 2) ls (.ref q :: rest))) : W p l e R s m args below meth c H locs cells slots Q (F0 m pc ls (.int n :: rest)) := by
  refine va_newa hx hb harr hty hK hP hD hS hA ha hn hN hbytes hcells hslots hdg (fun q cB H1 hK1 hP1 hD1 hS1 => ?_)
  have e1 : va_RA s cB ty := (hK1.2 tys.length (cB, ty) (by simp)).2
  have e2 : cB = cA := wt_RA_inj e1 (hK.2 t0 _ ht).2
  subst e2
  exact kk q H1 hP1 hD1 hS1
variable {wc w1 : va_W} {st0 : List Value} {b : Addr} {As : List Value} {C : String} {mc ms : Nat} {av : Array Value}
theorem wt_preV (hK : va_K D cl tys s) (hN : wt_nest s) (hP : va_P D cl wc H) (hr : ∃ cellB : Cell, H[b]? = some cellB ∧ cellB.vm.isStatics = false ∧ s.vm.findClass C = some cellB.cls) : PreV s H C b (va_Pc (.ref b :: As) (wt_ro D cl tys wc)) As :=
  ⟨fun a U g mk q => by obtain ⟨q0, qP, qK, qN⟩ := q; exact ⟨q0, qP, va_K.moved (u := U) (U := U.calling g mk a) (Vm.Alike.refl U.vm) qK, wt_nest_same (u := U) (U := U.calling g mk a) rfl qN⟩, hr, fun U hU hW => ⟨rfl, by rw [hU]; exact hP, va_K.moved hW.alike hK, wt_nest_warm hW hN⟩⟩
theorem wt_preS (hK : va_K D cl tys s) (hN : wt_nest s) (hP : va_P D cl wc H) : PreS s H (va_Pc As (wt_ro D cl tys wc)) As :=
  ⟨fun a U g mk q => by obtain ⟨q0, qP, qK, qN⟩ := q; exact ⟨q0, qP, va_K.moved (u := U) (U := U.calling g mk a) (Vm.Alike.refl U.vm) qK, wt_nest_same (u := U) (U := U.calling g mk a) rfl qN⟩, fun U hU hW => ⟨rfl, by rw [hU]; exact hP, va_K.moved hW.alike hK, wt_nest_warm hW hN⟩⟩
theorem wt_preVw (hK : va_K D cl tys s) (hN : wt_nest s) (hP : va_P D cl wc H) (hD : va_D A wc) (hr : ∃ cellB : Cell, H[b]? = some cellB ∧ cellB.vm.isStatics = false ∧ s.vm.findClass C = some cellB.cls) : PreV s H C b (va_Pc (.ref b :: As) (wt_rw D cl tys wc H.size)) As :=
  ⟨fun a U g mk q => by obtain ⟨q0, q1, qP, qK, qN, qD⟩ := q; exact ⟨q0, q1, qP, va_K.moved (u := U) (U := U.calling g mk a) (Vm.Alike.refl U.vm) qK, wt_nest_same (u := U) (U := U.calling g mk a) rfl qN, qD⟩, hr, fun U hU hW => ⟨rfl, by rw [hU], by rw [hU]; exact hP, va_K.moved hW.alike hK, wt_nest_warm hW hN, hD.weaken (fun _ _ _ _ => trivial)⟩⟩
theorem wt_preSw (hK : va_K D cl tys s) (hN : wt_nest s) (hP : va_P D cl wc H) (hD : va_D A wc) : PreS s H (va_Pc As (wt_rw D cl tys wc H.size)) As :=
  ⟨fun a U g mk q => by obtain ⟨q0, q1, qP, qK, qN, qD⟩ := q; exact ⟨q0, q1, qP, va_K.moved (u := U) (U := U.calling g mk a) (Vm.Alike.refl U.vm) qK, wt_nest_same (u := U) (U := U.calling g mk a) rfl qN, qD⟩, fun U hU hW => ⟨rfl, by rw [hU], by rw [hU]; exact hP, va_K.moved hW.alike hK, wt_nest_warm hW hN, hD.weaken (fun _ _ _ _ => trivial)⟩⟩
theorem wt_roi {v : Int32} (hr : va_Run p l e R s m args below meth c H locs cells slots 0 0 (F0 m pc ls st0) rest (vp_Si (fun r => r = v) av) (fun _ => False)) (kk : W p l e R s m args below meth c H locs cells slots Q (F0 m (pc + 3) ls (.int v :: rest))) : W p l e R s m args below meth c H locs cells slots Q (F0 m pc ls st0) := vp_callSi hr.run (fun r h => by rw [h]; exact kk)
theorem wt_rol {v : Int64} (hr : va_Run p l e R s m args below meth c H locs cells slots 0 0 (F0 m pc ls st0) rest (vp_Sl (fun r => r = v) av) (fun _ => False)) (kk : W p l e R s m args below meth c H locs cells slots Q (F0 m (pc + 3) ls (.long v :: rest))) : W p l e R s m args below meth c H locs cells slots Q (F0 m pc ls st0) := vp_callSl hr.run (fun r h => by rw [h]; exact kk)
theorem wt_in (hD : va_D A wc) (hS : va_S A H0 H locs) (hA : ∀ q, H0.size ≤ q → A q) : ∀ q, va_A wc H.size q → A q := by
  intro q h
  rcases h with ⟨k, e, h⟩ | h
  · exact hD.2 k (q, e) h
  · exact hA q (Nat.le_trans hS.1 h)
theorem wt_rwv (hr : va_Run p l e R s m args below meth c H locs cells slots mc ms (F0 m pc ls st0) rest (va_Qv (fun _ : Unit => True) (wt_B D cl (va_A wc H.size) w1) (va_A wc H.size) av) (va_A wc H.size)) (hD : va_D A wc) (hS : va_S A H0 H locs) (hA : ∀ q, H0.size ≤ q → A q) (kk : ∀ (H1 : Heap) (locs1 : List Loc), va_P D cl w1 H1 → va_D A w1 → va_S A H0 H1 locs1 → W p l e R s m args below meth c H1 locs1 (cells + mc) (slots + ms) Q (F0 m (pc + 3) ls (rest))) : W p l e R s m args below meth c H locs cells slots Q (F0 m pc ls st0) := by
  have hF := wt_in hD hS hA
  exact va_callv hr hS (fun q _ h => hF q h) hF (fun u t H1 locs1 ht hvm hw hB hz1 hk1 hS1 => kk H1 locs1 (by rw [← ht]; exact hB.1) (hB.2.weaken (fun k q _ h => hF q.1 h)) hS1)
theorem wt_rwi {v : Int32} (hr : va_Run p l e R s m args below meth c H locs cells slots mc ms (F0 m pc ls st0) rest (va_Qi (fun r (_ : Unit) => r = v) (wt_B D cl (va_A wc H.size) w1) (va_A wc H.size) av) (va_A wc H.size)) (hD : va_D A wc) (hS : va_S A H0 H locs) (hA : ∀ q, H0.size ≤ q → A q) (kk : ∀ (H1 : Heap) (locs1 : List Loc), va_P D cl w1 H1 → va_D A w1 → va_S A H0 H1 locs1 → W p l e R s m args below meth c H1 locs1 (cells + mc) (slots + ms) Q (F0 m (pc + 3) ls (.int v :: rest))) : W p l e R s m args below meth c H locs cells slots Q (F0 m pc ls st0) := by
  have hF := wt_in hD hS hA
  exact va_calli hr hS (fun q _ h => hF q h) hF (fun r u t H1 locs1 ht hvm hw hB hz1 hk1 hS1 => by rw [hw]; exact kk H1 locs1 (by rw [← ht]; exact hB.1) (hB.2.weaken (fun k q _ h => hF q.1 h)) hS1)
theorem wt_rwr {v : Nat} (hr : va_Run p l e R s m args below meth c H locs cells slots mc ms (F0 m pc ls st0) rest (va_Qr (fun _ : Unit => True) (fun u a t => a = v ∧ wt_B D cl (va_A wc H.size) w1 u t) (va_A wc H.size) av) (va_A wc H.size)) (hD : va_D A wc) (hS : va_S A H0 H locs) (hA : ∀ q, H0.size ≤ q → A q) (kk : ∀ (H1 : Heap) (locs1 : List Loc), va_P D cl w1 H1 → va_D A w1 → va_S A H0 H1 locs1 → W p l e R s m args below meth c H1 locs1 (cells + mc) (slots + ms) Q (F0 m (pc + 3) ls (.ref v :: rest))) : W p l e R s m args below meth c H locs cells slots Q (F0 m pc ls st0) := by
  have hF := wt_in hD hS hA
  exact va_callr hr hS (fun q _ h => hF q h) hF (fun u ra t H1 locs1 ht hvm hw hB hz1 hk1 hS1 => by rw [hB.1]; exact kk H1 locs1 (by rw [← ht]; exact hB.2.1) (hB.2.2.weaken (fun k q _ h => hF q.1 h)) hS1)
theorem wt_cutv (hr : va_Run p l e R s m args below meth c H locs cells slots mc ms (F0 m pc ls st0) rest (va_Qv (fun _ : Unit => True) (wt_B D cl (va_A wc H.size) w1) (va_A wc H.size) av) (va_A wc H.size)) (hP : va_P D cl ws H) (hD : va_D A ws) (hS : va_S A H0 H locs) (hA : ∀ q, H0.size ≤ q → A q) (isC isR : List Nat) {wr w2 : va_W} (hC : isC.map (fun i => ws[i]?) = wc.map some) (hR : isR.map (fun i => ws[i]?) = wr.map some) (hn : va_nd isR = true) (hdis : ∀ i ∈ isR, i ∉ isC) (is2 : List Nat) (hn2 : va_nd is2 = true) (h2 : is2.map (fun i => (wr ++ w1)[i]?) = w2.map some) (kk : ∀ (H1 : Heap) (locs1 : List Loc), va_P D cl w2 H1 → va_D A w2 → va_S A H0 H1 locs1 → W p l e R s m args below meth c H1 locs1 (cells + mc) (slots + ms) Q (F0 m (pc + 3) ls (rest))) : W p l e R s m args below meth c H locs cells slots Q (F0 m pc ls st0) := by
  have hF := va_free hD hS hA isC hC
  refine va_callv hr hS (fun q _ h => hF q h) hF (fun u t H1 locs1 ht hvm hw hB hz1 hk1 hS1 => ?_)
  obtain ⟨hP9, hD9⟩ := va_join hP hD isC isR hC hR hn hdis hk1 hF (by rw [← ht]; exact hB.1) hB.2
  exact kk H1 locs1 (hP9.sub is2 (wt_fm _ _ _ h2)) (hD9.sub is2 hn2 h2) hS1
theorem wt_cuti {v : Int32} (hr : va_Run p l e R s m args below meth c H locs cells slots mc ms (F0 m pc ls st0) rest (va_Qi (fun r (_ : Unit) => r = v) (wt_B D cl (va_A wc H.size) w1) (va_A wc H.size) av) (va_A wc H.size)) (hP : va_P D cl ws H) (hD : va_D A ws) (hS : va_S A H0 H locs) (hA : ∀ q, H0.size ≤ q → A q) (isC isR : List Nat) {wr w2 : va_W} (hC : isC.map (fun i => ws[i]?) = wc.map some) (hR : isR.map (fun i => ws[i]?) = wr.map some) (hn : va_nd isR = true) (hdis : ∀ i ∈ isR, i ∉ isC) (is2 : List Nat) (hn2 : va_nd is2 = true) (h2 : is2.map (fun i => (wr ++ w1)[i]?) = w2.map some) (kk : ∀ (H1 : Heap) (locs1 : List Loc), va_P D cl w2 H1 → va_D A w2 → va_S A H0 H1 locs1 → W p l e R s m args below meth c H1 locs1 (cells + mc) (slots + ms) Q (F0 m (pc + 3) ls (.int v :: rest))) : W p l e R s m args below meth c H locs cells slots Q (F0 m pc ls st0) := by
  have hF := va_free hD hS hA isC hC
  refine va_calli hr hS (fun q _ h => hF q h) hF (fun r u t H1 locs1 ht hvm hw hB hz1 hk1 hS1 => ?_)
  obtain ⟨hP9, hD9⟩ := va_join hP hD isC isR hC hR hn hdis hk1 hF (by rw [← ht]; exact hB.1) hB.2
  rw [hw]; exact kk H1 locs1 (hP9.sub is2 (wt_fm _ _ _ h2)) (hD9.sub is2 hn2 h2) hS1
end WTR
end
section
/-! the class, as it computes: tokens -/
def wt_dead : Int64 := 4611686018427387904
def wt_lm (x y : Int64) : Int64 := if y < x then y else x
def wt_pc (t : Int64) (k : Int32) : Int64 := if t = wt_dead ∨ k = -1 then wt_dead else t + k.toInt64 <<< ((nI 16).toInt64 &&& 63)
def wt_pw (t : Int64) (w : Int32) : Int64 := if t = wt_dead then wt_dead else (t &&& (-1024)) + 1024 + ((t &&& 1023) <<< ((nI 2).toInt64 &&& 63) ||| w.toInt64)
def wt_tc (t : Int64) : Int32 := if t = wt_dead then -1 else (t >>> ((nI 16).toInt64 &&& 63)).toInt32
def wt_tn (t : Int64) : Int32 := if t = wt_dead then nI 0 else (t >>> ((nI 10).toInt64 &&& 63) &&& 63).toInt32
def wt_tw (t : Int64) (i : Int32) : Int32 := if i < 0 ∨ wt_tn t ≤ i then -1 else (t >>> (((wt_tn t - nI 1 - i) * nI 2).toInt64 &&& 63)).toInt32 &&& nI 3
/-! places, contexts, grams -/
def wt_pl (c n s : Nat) : Nat := (c * 25 + n) * 3 + s
def wt_cx (u v : Nat) : Nat := u * 5 + v
def wt_sl (a b c : Nat) : Nat := (a * 6 + b) * 6 + c
def wt_two (gc gb : Nat → Int32) (v w : Nat) : Int32 :=
  if gc (wt_sl 0 (v + 1) (w + 1)) = -1 then (if gc (wt_sl 0 0 (w + 1)) = -1 then -1 else gb (wt_sl 0 0 (v + 1)) + gc (wt_sl 0 0 (w + 1))) else gc (wt_sl 0 (v + 1) (w + 1))
def wt_aft (gc gb : Nat → Int32) (u v w : Nat) : Int32 :=
  if v = 4 then wt_two gc gb v w else if gc (wt_sl (u + 1) (v + 1) (w + 1)) = -1 then (if wt_two gc gb v w = -1 then -1 else gb (wt_sl 0 (u + 1) (v + 1)) + wt_two gc gb v w) else gc (wt_sl (u + 1) (v + 1) (w + 1))
/-- words of two before, and one: a gram's form -/
def wt_isG (u v w : Int32) : Bool := decide (¬ wt_rng w 5 = 0) && (if u = -1 then (decide (v = -1) || decide (¬ wt_rng v 5 = 0)) else (decide (¬ wt_rng u 5 = 0) && decide (¬ wt_rng v 4 = 0)))
def wt_gx (u v w : Int32) : Nat := wt_sl (u + 1).toNatClampNeg (v + 1).toNatClampNeg (w + 1).toNatClampNeg
/-! the tree: phones, parents, children, size, a node -/
abbrev wt_T : Type := (Nat → Nat) × (Nat → Nat) × (Nat → Nat) × Nat × Nat
def wt_gr (ph pa ch : Nat → Nat) (sz n p : Nat) : wt_T := if ch (n * 4 + p) = 0 then (va_up ph (sz + 1) p, va_up pa (sz + 1) n, va_up ch (n * 4 + p) (sz + 1), sz + 1, sz + 1) else (ph, pa, ch, sz, ch (n * 4 + p))
def wt_gq (x : wt_T) (q : Int32) : wt_T := if q = -1 then x else wt_gr x.1 x.2.1 x.2.2.1 x.2.2.2.1 x.2.2.2.2 q.toNatClampNeg
def wt_add (ph pa ch : Nat → Nat) (sz p : Nat) (q r : Int32) : wt_T := wt_gq (wt_gq (wt_gr ph pa ch sz 0 p) q) r
def wt_dq (ch : Nat → Nat) (n : Nat) (q : Int32) : Nat := if n = 0 ∨ q = -1 then n else ch (n * 4 + q.toNatClampNeg)
def wt_has (ch : Nat → Nat) (en : Nat → Bool) (w p : Nat) (q r : Int32) : Bool := decide (¬ wt_dq ch (wt_dq ch (ch (0 * 4 + p)) q) r = 0) && en (wt_dq ch (wt_dq ch (ch (0 * 4 + p)) q) r * 4 + w)
def wt_isP (p q r : Int32) : Bool := decide (¬ wt_rng p 4 = 0) && (if q = -1 then decide (r = -1) else (decide (¬ wt_rng q 4 = 0) && (decide (r = -1) || decide (¬ wt_rng r 4 = 0))))
/-! the search -/
def wt_lv (sl : Nat → Int32) (tok : Nat → Int64) (c n s : Nat) : Int64 := wt_pc (tok (wt_pl c n s)) (sl s)
def wt_cm (pa : Nat → Nat) (sl : Nat → Int32) (tok wt : Nat → Int64) (c n s : Nat) : Int64 := if 0 < s then wt_lv sl tok c n (s - 1) else if pa n = 0 then wt c else wt_lv sl tok c (pa n) 2
def wt_h1 (ph pa : Nat → Nat) (sc sh sl : Nat → Int32) (wt : Nat → Int64) (t c n s : Nat) (tok : Nat → Int64) : Nat → Int64 := vp_updL tok (wt_pl c n s) (wt_pc (wt_lm (wt_pc (tok (wt_pl c n s)) (sh s)) (wt_cm pa sl tok wt c n s)) (sc (t * 12 + ph n * 3 + s)))
def wt_hn (ph pa : Nat → Nat) (sc sh sl : Nat → Int32) (wt : Nat → Int64) (t c n : Nat) (tok : Nat → Int64) : Nat → Int64 := wt_dn (fun s tok => wt_h1 ph pa sc sh sl wt t c n s tok) 3 tok
def wt_hear (ph pa : Nat → Nat) (sz : Nat) (sc sh sl : Nat → Int32) (wt : Nat → Int64) (t c : Nat) (tok : Nat → Int64) : Nat → Int64 := wt_dn (fun n tok => wt_hn ph pa sc sh sl wt t c (n + 1) tok) sz tok
def wt_e1 (en : Nat → Bool) (gc gb : Nat → Int32) (c n : Nat) (token : Int64) (w : Nat) (wt : Nat → Int64) : Nat → Int64 := if ¬ token = wt_dead ∧ en (n * 4 + w) = true then vp_updL wt (wt_cx (c % 5) w) (wt_lm (wt (wt_cx (c % 5) w)) (wt_pw (wt_pc token (wt_aft gc gb (c / 5) (c % 5) w)) (nI w))) else wt
def wt_en (en : Nat → Bool) (gc gb sl : Nat → Int32) (tok : Nat → Int64) (c n : Nat) (wt : Nat → Int64) : Nat → Int64 := wt_up (fun w wt => wt_e1 en gc gb c n (wt_lv sl tok c n 2) w wt) 4 0 wt
def wt_end (en : Nat → Bool) (sz : Nat) (gc gb sl : Nat → Int32) (tok : Nat → Int64) (c : Nat) (wt : Nat → Int64) : Nat → Int64 := wt_up (fun n wt => wt_en en gc gb sl tok c n wt) sz 1 wt
def wt_ms1 (tok : Nat → Int64) (k : Nat) (x : Nat × Int64) : Nat × Int64 := if tok k = wt_dead then x else (x.1 + 1, wt_lm x.2 (tok k))
def wt_ms (tok : Nat → Int64) : Nat × Int64 := wt_up (fun k x => wt_ms1 tok k x) 1875 0 (0, wt_dead)
def wt_ep1 (gc gb : Nat → Int32) (wt : Nat → Int64) (u v : Nat) (wp : Int64) : Int64 := wt_lm wp (wt_pc (wt (wt_cx u v)) (wt_aft gc gb u v 4))
def wt_ep (gc gb : Nat → Int32) (wt : Nat → Int64) : Int64 := wt_up (fun u wp => wt_up (fun v wp => wt_ep1 gc gb wt u v wp) 4 0 wp) 5 0 wt_dead
def wt_ha (ph pa : Nat → Nat) (sz : Nat) (sc sh sl : Nat → Int32) (wt : Nat → Int64) (t : Nat) (tok : Nat → Int64) : Nat → Int64 := wt_up (fun c tok => wt_hear ph pa sz sc sh sl wt t c tok) 25 0 tok
def wt_ea (en : Nat → Bool) (sz : Nat) (gc gb sl : Nat → Int32) (tok : Nat → Int64) : Nat → Int64 := wt_up (fun c wt => wt_end en sz gc gb sl tok c wt) 25 0 (fun _ => wt_dead)
/-- tokens, waiting, counts, least ones -/
abbrev wt_F : Type := (Nat → Int64) × (Nat → Int64) × (Nat → Nat) × (Nat → Int64)
def wt_fr (ph pa : Nat → Nat) (en : Nat → Bool) (sz : Nat) (gc gb sc sh sl : Nat → Int32) (t : Nat) (x : wt_F) : wt_F :=
  (wt_ha ph pa sz sc sh sl x.2.1 t x.1, wt_ea en sz gc gb sl (wt_ha ph pa sz sc sh sl x.2.1 t x.1), va_up x.2.2.1 (t + 1) (wt_ms (wt_ha ph pa sz sc sh sl x.2.1 t x.1)).1, vp_updL x.2.2.2 (t + 1) (wt_ms (wt_ha ph pa sz sc sh sl x.2.1 t x.1)).2)
def wt_run (ph pa : Nat → Nat) (en : Nat → Bool) (sz : Nat) (gc gb sc sh sl : Nat → Int32) (ct : Nat) (pn : Nat → Nat) (lt : Nat → Int64) : wt_F :=
  wt_up (fun t x => wt_fr ph pa en sz gc gb sc sh sl t x) ct 0 (fun _ => wt_dead, vp_updL (fun _ => wt_dead) (wt_cx 4 4) 0, pn, lt)
/-! the reference, as it computes -/
def wt_bg (fp : Nat → Int32) (j k : Nat) : Nat → Nat → Bool → Bool
  | 0, _, b => b
  | r + 1, i, b => if b = true then wt_bg fp j k r (i + 1) (decide (fp (3 * j + i) = fp (3 * k + i))) else b
def wt_beg (zs : Nat → Nat) (fp : Nat → Int32) (j k n : Nat) : Bool := wt_bg fp j k n 0 (decide (n ≤ zs j) && decide (n ≤ zs k))
def wt_fre (zs : Nat → Nat) (fp : Nat → Int32) (k n : Nat) : Bool := wt_up (fun j b => b && !(wt_beg zs fp j k n)) k 0 true
def wt_nod (zs : Nat → Nat) (fp : Nat → Int32) (mn : Nat) : Nat := wt_up (fun k n => wt_up (fun i n => if wt_fre zs fp k i = true then n + 1 else n) (zs k) 1 n) mn 0 0
def wt_gd (w p q r : Int32) : Bool := decide (¬ wt_rng w 4 = 0) && (decide (¬ wt_rng p 4 = 0) && ((decide (q = -1) || decide (¬ wt_rng q 4 = 0)) && (decide (r = -1) || (decide (¬ wt_rng r 4 = 0) && decide (¬ q = -1)))))
def wt_any (f : Nat → Bool) : Nat → Nat → Bool
  | 0, _ => false
  | r + 1, i => f i || wt_any f r (i + 1)
def wt_dup1 (wd zs : Nat → Nat) (fp : Nat → Int32) (mn k : Nat) : Bool := decide (wd k = wd mn) && (decide (zs k = zs mn) && wt_beg zs fp k mn (zs k))
def wt_dup (wd zs : Nat → Nat) (fp : Nat → Int32) (mn : Nat) : Bool := wt_any (fun k => wt_dup1 wd zs fp mn k) mn 0
def wt_sR (u v w : Int32) : Int32 :=
  if wt_rng w 5 = 0 ∨ (¬ v = -1 ∧ wt_rng v 5 = 0) ∨ (¬ u = -1 ∧ wt_rng u 5 = 0) ∨ (¬ u = -1 ∧ wt_rng v 4 = 0) then -1
  else if v = -1 then w else if u = -1 then nI 5 + nI 5 * v + w else nI 30 + nI 25 * u + nI 5 * v + w
def wt_bk (kn : Nat → Bool) (bo : Nat → Int32) (k : Nat) : Int32 := if kn k = true then bo k else nI 0
def wt_af1 (kn : Nat → Bool) (co bo : Nat → Int32) (v w : Nat) : Int32 :=
  if kn (5 + 5 * v + w) = true then co (5 + 5 * v + w) else if kn w = true then wt_bk kn bo v + co w else -1
def wt_afN (kn : Nat → Bool) (co bo : Nat → Int32) (u v w : Nat) : Int32 :=
  if ¬ v = 4 ∧ kn (30 + 25 * u + 5 * v + w) = true then co (30 + 25 * u + 5 * v + w)
  else if wt_af1 kn co bo v w < 0 ∨ v = 4 then wt_af1 kn co bo v w else wt_af1 kn co bo v w + wt_bk kn bo (5 + 5 * u + v)
/-- what 'after' is asked of: words or the edge -/
def wt_okA (u v w : Int32) : Bool := decide (¬ wt_rng w 5 = 0) && (decide (¬ wt_rng v 5 = 0) && (decide (¬ wt_rng u 5 = 0) && !(decide (v = nI 4) && !(decide (u = nI 4)))))
def wt_bet (v d w nx nd nc : Int32) : Bool := decide (nx < 0) || (decide (v < nx) || (decide (v = nx) && (decide (d < nd) || (decide (d = nd) && decide (w < nc)))))
abbrev wt_N : Type := (Nat → Int32) × (Nat → Int32) × (Nat → Int32)
def wt_put (x : wt_N) (to : Nat) (v d w : Int32) : wt_N := if wt_bet v d w (x.1 to) (x.2.1 to) (x.2.2 to) = true then (upd x.1 to v, upd x.2.1 to d, upd x.2.2 to w) else x
def wt_come (pn : Nat → Nat) (so : Nat → Int32) (t k p uv : Nat) (c d w : Int32) (x : wt_N) : wt_N := wt_put x (225 * k + 25 * p + uv) (c + so (12 * t + 3 * pn (3 * k + p / 3) + p % 3)) d w
def wt_goB (pn wd zs : Nat → Nat) (mn : Nat) (kn : Nat → Bool) (co bo le so ea dn cd : Nat → Int32) (t i : Nat) (y : wt_N) : wt_N :=
  if i / 25 % 9 + 1 < 3 * zs (i / 225) then wt_come pn so t (i / 225) (i / 25 % 9 + 1) (i % 25) (ea i + le (i / 25 % 9 % 3)) (dn i) (cd i) y
  else if wt_afN kn co bo (i / 5 % 5) (i % 5) (wd (i / 225)) < 0 then y
  else wt_up (fun j x => wt_come pn so t j 0 (5 * (i % 5) + wd (i / 225)) (ea i + le 2 + wt_afN kn co bo (i / 5 % 5) (i % 5) (wd (i / 225))) (dn i + nI 1) (nI 4 * cd i + nI (wd (i / 225))) x) mn 0 y
def wt_go (pn wd zs : Nat → Nat) (mn : Nat) (kn : Nat → Bool) (co bo ho le so ea dn cd : Nat → Int32) (t i : Nat) (x : wt_N) : wt_N :=
  wt_goB pn wd zs mn kn co bo le so ea dn cd t i (wt_come pn so t (i / 225) (i / 25 % 9) (i % 25) (ea i + ho (i / 25 % 9 % 3)) (dn i) (cd i) x)
/-- one frame more, and the first -/
def wt_st (pn wd zs : Nat → Nat) (mn : Nat) (kn : Nat → Bool) (co bo ho le so : Nat → Int32) (t : Nat) (x : wt_N) : wt_N :=
  wt_up (fun i y => if 0 ≤ x.1 i then wt_go pn wd zs mn kn co bo ho le so x.1 x.2.1 x.2.2 t i y else y) 1800 0 ((fun _ => -1), x.2.1, x.2.2)
end
section
/-! small rows for the answers of the checks -/
theorem wt_nI1 : nI 1 = 1 := by decide
theorem wt_r0a {x : Int32} {n : Nat} (h : x < 0) : nI 0 = wt_rng x n := nI_0.trans (wt_rng_0 (by have := Int32.lt_iff_toInt_lt.mp h; rw [Int32.toInt_zero] at this; omega)).symm
theorem wt_r0b {x : Int32} {n : Nat} (h : nI n ≤ x) (hn : n < 2 ^ 31) : nI 0 = wt_rng x n := nI_0.trans (wt_rng_0 (by have := Int32.le_iff_toInt_le.mp h; rw [nI_toInt hn] at this; omega)).symm
theorem wt_r0c {x : Int32} {n : Nat} (h : nI n < x) (hn : n < 2 ^ 31) : nI 0 = wt_rng x (n + 1) := nI_0.trans (wt_rng_0 (by have := Int32.lt_iff_toInt_lt.mp h; rw [nI_toInt hn] at this; omega)).symm
theorem wt_r1b {x : Int32} {n : Nat} (h : ¬ x < 0) (h2 : ¬ nI n ≤ x) (hn : n < 2 ^ 31) : nI 1 = wt_rng x n := wt_nI1.trans (wt_rng_1 (by rw [Int32.lt_iff_toInt_lt, Int32.toInt_zero] at h; omega) (by rw [Int32.le_iff_toInt_le, nI_toInt hn] at h2; omega)).symm
theorem wt_r1c {x : Int32} {n : Nat} (h : ¬ x < 0) (h2 : ¬ nI n < x) (hn : n < 2 ^ 31) : nI 1 = wt_rng x (n + 1) := wt_nI1.trans (wt_rng_1 (by rw [Int32.lt_iff_toInt_lt, Int32.toInt_zero] at h; omega) (by rw [Int32.lt_iff_toInt_lt, nI_toInt hn] at h2; omega)).symm
theorem wt_r5a {x : Int32} (h : ¬ wt_rng x 4 = 0) : nI 1 = wt_rng x 5 := by
  obtain ⟨j, hj, rfl⟩ := wt_rng_of (by decide) h
  exact wt_nI1.trans (wt_rng_nI (by omega) (by decide)).symm
theorem wt_r5b {x : Int32} (h : x = nI 4) : nI 1 = wt_rng x 5 := by
  subst h
  exact wt_nI1.trans (wt_rng_nI (by omega) (by decide)).symm
theorem wt_r5c {x : Int32} (h : wt_rng x 4 = 0) (h2 : ¬ x = nI 4) : nI 0 = wt_rng x 5 := by
  rw [nI_0]
  by_cases q : wt_rng x 5 = 0
  · exact q.symm
  · obtain ⟨j, hj, rfl⟩ := wt_rng_of (by decide) q
    by_cases k : j < 4
    · rw [wt_rng_nI k (by decide)] at h
      exact absurd h (by decide)
    · exact absurd (congrArg nI (show j = 4 by omega)) h2
theorem wt_slot {u v w : Int32} {a b c : Nat} (hu : u + nI 1 = nI a) (hv : v + nI 1 = nI b) (hw : w + nI 1 = nI c) : ((u + nI 1) * nI 6 + v + nI 1) * nI 6 + w + nI 1 = nI (wt_sl a b c) := by
  rw [hu, Int32.add_assoc (nI a * nI 6), hv, Int32.add_assoc _ w, hw, pk_mul, nI_add, pk_mul, nI_add]
  rfl
theorem wt_m1a : (-1 : Int32) + nI 1 = nI 0 := by decide
theorem wt_sl_lt {a b c : Nat} (ha : a < 6) (hb : b < 6) (hc : c < 6) : wt_sl a b c < 216 := by unfold wt_sl; omega
theorem wt_pl_lt {a b c : Nat} (ha : a < 25) (hb : b < 25) (hc : c < 3) : wt_pl a b c < 1875 := by unfold wt_pl; omega
/-- what counts down to 0 inclusive -/
def wt_pd : Nat → Int32
  | 0 => -1
  | n + 1 => nI n
theorem wt_pd_dec (n : Nat) : nI n + Int32.ofInt (-1) = wt_pd n := by
  cases n with
  | zero => exact wt_dec0
  | succ n => exact wt_dec1 n
end
section
/-! numbers of 64 bits: rows of the kit's BITS, as given for pasting -/
theorem wb_tb (n : Nat) : (lN n).toBitVec = BitVec.ofNat 64 n := rfl
theorem wb_inj {a b : Int64} (h : a.toBitVec = b.toBitVec) : a = b := Int64.toBitVec_inj.mp h
theorem wb_tn {n : Nat} (h : n < 2 ^ 64) : (lN n).toBitVec.toNat = n := by rw [wb_tb, BitVec.toNat_ofNat, Nat.mod_eq_of_lt h]
theorem wb_of (x : Int64) : ∃ n, n < 2 ^ 64 ∧ x = lN n := ⟨x.toBitVec.toNat, x.toBitVec.isLt, wb_inj (by rw [wb_tb]; simp)⟩
theorem wb_of32 (x : Int32) : ∃ n, n < 2 ^ 32 ∧ x = nI n := ⟨x.toBitVec.toNat, x.toBitVec.isLt, Int32.toBitVec_inj.mp (by show _ = BitVec.ofNat 32 _; simp)⟩
theorem wb_c : ∀ k, k < 64 → ((nI k).toInt64 &&& 63) = lN k := by decide +kernel
theorem wb_cu : ∀ k, k < 64 → ((nI k).toInt64.toUInt64 &&& Int64.toUInt64 63) = UInt64.ofNat k := by decide +kernel
theorem wb_sm : ∀ k, k < 64 → (BitVec.ofNat 64 k).smod 64 = BitVec.ofNat 64 k := by decide +kernel
theorem wb_pw {a b : Nat} (h : a ≤ b) : 2 ^ b = 2 ^ a * 2 ^ (b - a) := by rw [← Nat.pow_add]; congr 1; omega
theorem wb_lt2 {a b : Nat} (h : a < b) : 2 ^ a < 2 ^ b := Nat.pow_lt_pow_right (by decide) h
theorem wb_mod (n : Nat) : lN n = lN (n % 2 ^ 64) := wb_inj (by rw [wb_tb, wb_tb]; apply BitVec.eq_of_toNat_eq; rw [BitVec.toNat_ofNat, BitVec.toNat_ofNat, Nat.mod_mod])
theorem wb_shl (n : Nat) {k : Nat} (hk : k < 64) : lN n <<< ((nI k).toInt64 &&& 63) = lN (n * 2 ^ k) := by
  rw [wb_c k hk]
  apply wb_inj
  rw [Int64.toBitVec_shiftLeft, wb_tb, wb_tb, wb_tb, wb_sm k hk]
  apply BitVec.eq_of_toNat_eq
  rw [BitVec.shiftLeft_eq', BitVec.toNat_shiftLeft, BitVec.toNat_ofNat, BitVec.toNat_ofNat, BitVec.toNat_ofNat, Nat.mod_eq_of_lt (show k < 2 ^ 64 by omega), Nat.shiftLeft_eq, Nat.mul_mod, Nat.mod_mod, ← Nat.mul_mod]
theorem wb_and {a b : Nat} (ha : a < 2 ^ 64) (hb : b < 2 ^ 64) : lN a &&& lN b = lN (a &&& b) := by
  apply wb_inj
  rw [Int64.toBitVec_and, wb_tb, wb_tb, wb_tb]
  apply BitVec.eq_of_toNat_eq
  rw [BitVec.toNat_and, BitVec.toNat_ofNat, BitVec.toNat_ofNat, BitVec.toNat_ofNat, Nat.mod_eq_of_lt ha, Nat.mod_eq_of_lt hb, Nat.mod_eq_of_lt (Nat.and_lt_two_pow _ hb)]
theorem wb_or {a b : Nat} (ha : a < 2 ^ 64) (hb : b < 2 ^ 64) : lN a ||| lN b = lN (a ||| b) := by
  apply wb_inj
  rw [Int64.toBitVec_or, wb_tb, wb_tb, wb_tb]
  apply BitVec.eq_of_toNat_eq
  rw [BitVec.toNat_or, BitVec.toNat_ofNat, BitVec.toNat_ofNat, BitVec.toNat_ofNat, Nat.mod_eq_of_lt ha, Nat.mod_eq_of_lt hb, Nat.mod_eq_of_lt (Nat.or_lt_two_pow ha hb)]
theorem wb_mask {n k : Nat} (hn : n < 2 ^ 64) (hk : k < 64) : lN n &&& lN (2 ^ k - 1) = lN (n % 2 ^ k) := by
  rw [wb_and hn (by have := wb_lt2 hk; omega), Nat.and_two_pow_sub_one_eq_mod]
theorem wb_a1 {n : Nat} (hn : n < 2 ^ 64) : lN n &&& 1 = lN (n % 2) := wb_mask (k := 1) hn (by decide)
theorem u_tn {n : Nat} (h : n < 2 ^ 64) : (UInt64.ofNat n).toNat = n := Nat.mod_eq_of_lt h
theorem g_and {a b c : Nat} (ha : a < 2 ^ 64) (hb : b < 2 ^ 64) (hc : a &&& b = c) : lN a &&& lN b = lN c := by
  subst hc
  have h : UInt64.ofNat a &&& UInt64.ofNat b = UInt64.ofNat (a &&& b) := UInt64.toNat_inj.mp (by rw [UInt64.toNat_and, u_tn ha, u_tn hb, u_tn (Nat.and_lt_two_pow a hb)])
  have h2 := congrArg UInt64.toInt64 h
  exact h2
theorem g_and1 {a : Nat} (ha : a < 2 ^ 64) : lN a &&& 1 = lN (a % 2) := g_and (b := 1) ha (by decide) (Nat.and_two_pow_sub_one_eq_mod a 1)
theorem g_mask {a s p : Nat} (hp : 2 ^ s = p) (hs : s < 64) (ha : a < 2 ^ 64) : lN a &&& lN (p - 1) = lN (a % p) := by
  subst hp
  have := Nat.pow_lt_pow_right (show 1 < 2 by decide) hs
  exact g_and ha (by omega) (Nat.and_two_pow_sub_one_eq_mod a s)
theorem g_or {k p a b : Nat} (hp : 2 ^ k = p) (ha : a < p) (h : b * p + a < 2 ^ 64) : lN (b * p) ||| lN a = lN (b * p + a) := by
  subst hp
  have h1 : b * 2 ^ k ||| a = b * 2 ^ k + a := by rw [← Nat.shiftLeft_eq, Nat.shiftLeft_add_eq_or_of_lt ha]
  have h3 : UInt64.ofNat (b * 2 ^ k) ||| UInt64.ofNat a = UInt64.ofNat (b * 2 ^ k + a) := UInt64.toNat_inj.mp (by rw [UInt64.toNat_or, u_tn (by omega), u_tn (by omega), u_tn h, h1])
  have h2 := congrArg UInt64.toInt64 h3
  exact h2
theorem g_or' {k p a b : Nat} (hp : 2 ^ k = p) (ha : a < p) (h : a + b * p < 2 ^ 64) : lN a ||| lN (b * p) = lN (a + b * p) := by
  rw [Int64.or_comm, g_or hp ha (by omega), Nat.add_comm]
theorem pf_lI {a : Nat} (h : a < 2 ^ 63) : (lN a).toInt = (a : Int) := lg_ofNat_toInt h
theorem pf_shr {a d : Nat} {D : Int64} (hD : (D.toBitVec.smod 64).toNat = d) (h : a < 2 ^ 62) : lN a >>> D = lN (a / 2 ^ d) := by
  have hd : a / 2 ^ d ≤ a := Nat.div_le_self _ _
  apply Int64.toInt_inj.mp
  have e : (lN a >>> D).toInt = (lN a).toInt >>> d := by
    rw [← hD]
    exact BitVec.toInt_sshiftRight ..
  rw [e, Int.shiftRight_eq_div_pow, pf_lI (by omega), pf_lI (by omega)]
  rfl
/-! tokens as naturals -/
theorem tk_dead : wt_dead = lN 4611686018427387904 := rfl
theorem tk_lm {a b : Nat} (ha : a < 2 ^ 63) (hb : b < 2 ^ 63) : wt_lm (lN a) (lN b) = lN (min a b) := by
  unfold wt_lm
  by_cases h : b < a
  · rw [if_pos ((pk_lLT hb ha).mpr h), Nat.min_eq_right (by omega)]
  · rw [if_neg (fun q => h ((pk_lLT hb ha).mp q)), Nat.min_eq_left (by omega)]
theorem tk_ne {a : Nat} (ha : a < 4611686018427387904) : ¬ lN a = wt_dead := by
  rw [tk_dead, pk_lEQ (by omega) (by decide)]; omega
theorem tk_pc {a k : Nat} (ha : a < 4611686018427387904) (hk : k < 2 ^ 31) : wt_pc (lN a) (nI k) = lN (a + k * 65536) := by
  unfold wt_pc
  have e := wb_shl k (k := 16) (by decide)
  rw [show (2 : Nat) ^ 16 = 65536 from rfl] at e
  rw [if_neg (fun h => h.elim (tk_ne ha) (wt_nI_nem1 hk)), nI_l hk, e, lN_add]
theorem tk_pc_dead (k : Int32) : wt_pc wt_dead k = wt_dead := if_pos (Or.inl rfl)
theorem tk_pc_m1 (t : Int64) : wt_pc t (-1) = wt_dead := if_pos (Or.inr rfl)
theorem tk_pw_dead (k : Int32) : wt_pw wt_dead k = wt_dead := if_pos rfl
theorem tk_n1024 (a : Nat) (ha : a < 2 ^ 62) : a &&& 18446744073709550592 = a / 1024 * 1024 := by
  have e1 : (18446744073709550592 : Nat) = (2 ^ 54 - 1) <<< 10 := by decide
  have e2 : a / 1024 * 1024 = (a >>> 10) <<< 10 := by rw [Nat.shiftRight_eq_div_pow, Nat.shiftLeft_eq]
  rw [e1, e2]
  apply Nat.eq_of_testBit_eq
  intro i
  simp only [Nat.testBit_and, Nat.testBit_shiftLeft, Nat.testBit_shiftRight, Nat.testBit_two_pow_sub_one]
  by_cases h : 10 ≤ i
  · rw [show 10 + (i - 10) = i by omega]
    by_cases h2 : i < 64
    · simp [h, show i - 10 < 54 by omega]
    · have : a.testBit i = false := Nat.testBit_lt_two_pow (Nat.lt_of_lt_of_le ha (Nat.pow_le_pow_right (by decide) (by omega)))
      simp [this]
  · simp [h]
theorem tk_and1024 {a : Nat} (ha : a < 2 ^ 62) : lN a &&& (-1024) = lN (a / 1024 * 1024) := by
  rw [show (-1024 : Int64) = lN 18446744073709550592 by decide, wb_and (by omega) (by decide), tk_n1024 a ha]
theorem tk_pw {x d w k : Nat} (hx : x < 2 ^ 40) (hd : d < 63) (hw : w < 256) (hk : k < 4) : wt_pw (lN (x * 65536 + d * 1024 + w)) (nI k) = lN (x * 65536 + (d + 1) * 1024 + (w * 4 + k)) := by
  unfold wt_pw
  have e := wb_shl w (k := 2) (by decide)
  rw [show (2 : Nat) ^ 2 = 4 from rfl] at e
  have e3 : lN (x * 65536 + d * 1024 + w) &&& 1023 = lN w := by
    have := g_mask (a := x * 65536 + d * 1024 + w) (s := 10) (p := 1024) rfl (by decide) (by omega)
    rw [show (x * 65536 + d * 1024 + w) % 1024 = w by omega] at this
    exact this
  rw [if_neg (tk_ne (by omega)), tk_and1024 (by omega), e3, e, nI_l (by omega), g_or (k := 2) (p := 4) rfl hk (by omega)]
  rw [show (1024 : Int64) = lN 1024 from rfl, lN_add, lN_add]
  exact congrArg lN (by omega)
theorem tk_tc {x d w : Nat} (hx : x < 2 ^ 31) (hd : d < 64) (hw : w < 1024) : wt_tc (lN (x * 65536 + d * 1024 + w)) = nI x := by
  unfold wt_tc
  have e := pf_shr (a := x * 65536 + d * 1024 + w) (d := 16) (D := (nI 16).toInt64 &&& 63) (by decide +kernel) (by omega)
  rw [show (2 : Nat) ^ 16 = 65536 from rfl] at e
  rw [if_neg (tk_ne (by omega)), e, lN_i]
  exact congrArg nI (by omega)
theorem tk_tn {x d w : Nat} (hx : x < 2 ^ 31) (hd : d < 64) (hw : w < 1024) : wt_tn (lN (x * 65536 + d * 1024 + w)) = nI d := by
  unfold wt_tn
  have e := pf_shr (a := x * 65536 + d * 1024 + w) (d := 10) (D := (nI 10).toInt64 &&& 63) (by decide +kernel) (by omega)
  rw [show (2 : Nat) ^ 10 = 1024 from rfl] at e
  have e2 := g_mask (a := (x * 65536 + d * 1024 + w) / 1024) (s := 6) (p := 64) rfl (by decide) (by omega)
  rw [if_neg (tk_ne (by omega)), e, show (63 : Int64) = lN (64 - 1) from rfl, e2, lN_i]
  exact congrArg nI (by omega)
theorem tk_tc_dead : wt_tc wt_dead = -1 := if_pos rfl
theorem tk_tn_dead : wt_tn wt_dead = nI 0 := if_pos rfl
end
section
/-! the tree of beginnings against the list of pronunciations -/
def sm (f : Nat → Nat) : Nat → Nat
  | 0 => 0
  | n + 1 => sm f n + f n
theorem sm_congr {f g : Nat → Nat} : ∀ (n : Nat), (∀ i, i < n → f i = g i) → sm f n = sm g n
  | 0, _ => rfl
  | n + 1, h => by
    show sm f n + f n = sm g n + g n
    rw [sm_congr n (fun i hi => h i (by omega)), h n (by omega)]
theorem sm_add (f g : Nat → Nat) : ∀ n, sm (fun i => f i + g i) n = sm f n + sm g n
  | 0 => rfl
  | n + 1 => by
    show sm (fun i => f i + g i) n + (f n + g n) = (sm f n + f n) + (sm g n + g n)
    rw [sm_add f g n]; omega
theorem sm_zero {f : Nat → Nat} : ∀ (n : Nat), (∀ i, i < n → f i = 0) → sm f n = 0
  | 0, _ => rfl
  | n + 1, h => by
    show sm f n + f n = 0
    rw [sm_zero n (fun i hi => h i (by omega)), h n (by omega)]
/-- sums in another order -/
theorem sm_comm (f : Nat → Nat → Nat) (m : Nat) : ∀ n, sm (fun i => sm (fun j => f i j) m) n = sm (fun j => sm (fun i => f i j) n) m
  | 0 => (sm_zero m (fun _ _ => rfl)).symm
  | n + 1 => by
    show sm (fun i => sm (fun j => f i j) m) n + sm (fun j => f n j) m = sm (fun j => sm (fun i => f i j) n + f n j) m
    rw [sm_comm f m n, sm_add]
theorem sm_app (f : Nat → Nat) (n : Nat) : ∀ m, sm f (n + m) = sm f n + sm (fun i => f (n + i)) m
  | 0 => rfl
  | m + 1 => by
    show sm f (n + m) + f (n + m) = sm f n + (sm (fun i => f (n + i)) m + f (n + m))
    rw [sm_app f n m]; omega
/-- a sum over n * m places, row by row -/
theorem sm_mul (f : Nat → Nat) (m : Nat) : ∀ n, sm f (n * m) = sm (fun i => sm (fun j => f (i * m + j)) m) n
  | 0 => by rw [Nat.zero_mul]; rfl
  | n + 1 => by
    rw [Nat.succ_mul, sm_app, sm_mul f m n]; rfl
theorem up_sum (g : Nat → Nat) : ∀ (r i x : Nat), wt_up (fun k n => n + g k) r i x = x + sm (fun k => g (i + k)) r
  | 0, _, _ => rfl
  | r + 1, i, x => by
    show wt_up (fun k n => n + g k) r (i + 1) (x + g i) = x + sm (fun k => g (i + k)) (r + 1)
    rw [up_sum g r (i + 1) (x + g i), show r + 1 = 1 + r by omega, sm_app]
    show x + g i + sm (fun k => g (i + 1 + k)) r = x + (0 + g i + sm (fun k => g (i + (1 + k))) r)
    rw [sm_congr (f := fun k => g (i + 1 + k)) (g := fun k => g (i + (1 + k))) r (fun k _ => by rw [Nat.add_assoc])]
    omega
/-- the node behind i phones of the pronunciation k -/
def tr_nd (ch pn : Nat → Nat) (k : Nat) : Nat → Nat
  | 0 => 0
  | i + 1 => ch (tr_nd ch pn k i * 4 + pn (3 * k + i))
def tr_ok (M : Nat) (zs pn ph pa ch : Nat → Nat) (sz : Nat) : Prop :=
  (∀ k, k < M → zs k ≤ 3 ∧ ∀ i, i < zs k → pn (3 * k + i) < 4 ∧ 1 ≤ tr_nd ch pn k (i + 1) ∧ tr_nd ch pn k (i + 1) ≤ sz ∧ ph (tr_nd ch pn k (i + 1)) = pn (3 * k + i) ∧ pa (tr_nd ch pn k (i + 1)) = tr_nd ch pn k i) ∧
  (∀ n, 1 ≤ n → n ≤ sz → pa n < n ∧ ph n < 4 ∧ ∃ k i, k < M ∧ i < zs k ∧ tr_nd ch pn k (i + 1) = n) ∧
  (∀ n p, p < 4 → ch (n * 4 + p) ≠ 0 → n ≤ sz ∧ ch (n * 4 + p) ≤ sz ∧ pa (ch (n * 4 + p)) = n ∧ ph (ch (n * 4 + p)) = p)
theorem tr_le {M : Nat} {zs pn ph pa ch : Nat → Nat} {sz : Nat} (h : tr_ok M zs pn ph pa ch sz) {k i : Nat} (hk : k < M) (hi : i ≤ zs k) : tr_nd ch pn k i ≤ sz := by
  cases i with
  | zero => exact Nat.zero_le _
  | succ i => exact ((h.1 k hk).2 i hi).2.2.1
theorem tr_same {ch pn pn' : Nat → Nat} {k k' : Nat} : ∀ (i : Nat), (∀ a, a < i → pn (3 * k + a) = pn' (3 * k' + a)) → tr_nd ch pn k i = tr_nd ch pn' k' i
  | 0, _ => rfl
  | i + 1, h => by
    show ch (tr_nd ch pn k i * 4 + pn (3 * k + i)) = ch (tr_nd ch pn' k' i * 4 + pn' (3 * k' + i))
    rw [tr_same i (fun a ha => h a (by omega)), h i (by omega)]
theorem tr_uniq {M : Nat} {zs pn ph pa ch : Nat → Nat} {sz : Nat} (h : tr_ok M zs pn ph pa ch sz) {k k' : Nat} (hk : k < M) (hk' : k' < M) :
    ∀ (i i' : Nat), i ≤ zs k → i' ≤ zs k' → tr_nd ch pn k i = tr_nd ch pn k' i' → i = i' ∧ ∀ a, a < i → pn (3 * k + a) = pn (3 * k' + a) := by
  intro i
  induction i with
  | zero =>
    intro i' _ hi' e
    cases i' with
    | zero => exact ⟨rfl, fun a ha => absurd ha (Nat.not_lt_zero a)⟩
    | succ j =>
      have := ((h.1 k' hk').2 j hi').2.1
      rw [← e] at this
      exact absurd this (by show ¬ 1 ≤ 0; omega)
  | succ i ih =>
    intro i' hi hi' e
    have q := (h.1 k hk).2 i hi
    cases i' with
    | zero =>
      have := q.2.1
      rw [e] at this
      exact absurd this (by show ¬ 1 ≤ 0; omega)
    | succ j =>
      have q' := (h.1 k' hk').2 j hi'
      have e1 : pn (3 * k + i) = pn (3 * k' + j) := by rw [← q.2.2.2.1, ← q'.2.2.2.1, e]
      have e2 : tr_nd ch pn k i = tr_nd ch pn k' j := by rw [← q.2.2.2.2, ← q'.2.2.2.2, e]
      obtain ⟨e3, e4⟩ := ih j (by omega) (by omega) e2
      subst e3
      refine ⟨rfl, fun a ha => ?_⟩
      by_cases hai : a < i
      · exact e4 a hai
      · rw [show a = i by omega]; exact e1
/-- a path's next phone: the tree grows where it must -/
theorem tr_grow {K : Nat} {zs pn ph pa ch : Nat → Nat} {sz j p : Nat} (h : tr_ok (K + 1) zs pn ph pa ch sz) (hj : zs K = j) (hj3 : j < 3) (hp : p < 4) (hpn : pn (3 * K + j) = p) :
    tr_ok (K + 1) (va_up zs K (j + 1)) pn (wt_gr ph pa ch sz (tr_nd ch pn K j) p).1 (wt_gr ph pa ch sz (tr_nd ch pn K j) p).2.1 (wt_gr ph pa ch sz (tr_nd ch pn K j) p).2.2.1 (wt_gr ph pa ch sz (tr_nd ch pn K j) p).2.2.2.1
      ∧ (wt_gr ph pa ch sz (tr_nd ch pn K j) p).2.2.2.2 = tr_nd (wt_gr ph pa ch sz (tr_nd ch pn K j) p).2.2.1 pn K (j + 1)
      ∧ ∀ k i, k < K + 1 → i ≤ zs k → tr_nd (wt_gr ph pa ch sz (tr_nd ch pn K j) p).2.2.1 pn k i = tr_nd ch pn k i := by
  have zk : ∀ k, k ≠ K → va_up zs K (j + 1) k = zs k := fun k hk => va_up_ne zs (j + 1) hk
  have zK : va_up zs K (j + 1) K = j + 1 := va_up_self zs K (j + 1)
  have hn : tr_nd ch pn K j ≤ sz := tr_le h (by omega) (by omega)
  by_cases hc : ch (tr_nd ch pn K j * 4 + p) = 0
  · have e : wt_gr ph pa ch sz (tr_nd ch pn K j) p = (va_up ph (sz + 1) p, va_up pa (sz + 1) (tr_nd ch pn K j), va_up ch (tr_nd ch pn K j * 4 + p) (sz + 1), sz + 1, sz + 1) := if_pos hc
    rw [e]
    show tr_ok (K + 1) (va_up zs K (j + 1)) pn (va_up ph (sz + 1) p) (va_up pa (sz + 1) (tr_nd ch pn K j)) (va_up ch (tr_nd ch pn K j * 4 + p) (sz + 1)) (sz + 1)
      ∧ sz + 1 = tr_nd (va_up ch (tr_nd ch pn K j * 4 + p) (sz + 1)) pn K (j + 1)
      ∧ ∀ k i, k < K + 1 → i ≤ zs k → tr_nd (va_up ch (tr_nd ch pn K j * 4 + p) (sz + 1)) pn k i = tr_nd ch pn k i
    generalize hnd : tr_nd ch pn K j = n at hn hc
    have keep : ∀ k i, k < K + 1 → i ≤ zs k → tr_nd (va_up ch (n * 4 + p) (sz + 1)) pn k i = tr_nd ch pn k i := by
      intro k i hk
      induction i with
      | zero => intro _; rfl
      | succ i ih =>
        intro hi
        have q := (h.1 k hk).2 i hi
        show va_up ch (n * 4 + p) (sz + 1) (tr_nd (va_up ch (n * 4 + p) (sz + 1)) pn k i * 4 + pn (3 * k + i)) = ch (tr_nd ch pn k i * 4 + pn (3 * k + i))
        rw [ih (by omega)]
        refine va_up_ne ch _ (fun z => ?_)
        have q2 : 1 ≤ ch (tr_nd ch pn k i * 4 + pn (3 * k + i)) := q.2.1
        rw [z, hc] at q2
        omega
    have hK1 : tr_nd (va_up ch (n * 4 + p) (sz + 1)) pn K (j + 1) = sz + 1 := by
      show va_up ch (n * 4 + p) (sz + 1) (tr_nd (va_up ch (n * 4 + p) (sz + 1)) pn K j * 4 + pn (3 * K + j)) = sz + 1
      rw [keep K j (by omega) (by omega), hnd, hpn, va_up_self]
    refine ⟨⟨?_, ?_, ?_⟩, hK1.symm, keep⟩
    · intro k hk
      by_cases hkK : k = K
      · subst hkK
        rw [zK]
        refine ⟨by omega, fun i hi => ?_⟩
        by_cases hij : i < j
        · have q := (h.1 k hk).2 i (by omega)
          rw [keep k (i + 1) hk (by omega), keep k i hk (by omega)]
          refine ⟨q.1, q.2.1, by omega, ?_, ?_⟩
          · rw [va_up_ne ph p (by omega)]; exact q.2.2.2.1
          · rw [va_up_ne pa n (by omega)]; exact q.2.2.2.2
        · rw [show i = j by omega, hK1, keep k j hk (by omega), hnd, hpn, va_up_self, va_up_self]
          exact ⟨hp, by omega, by omega, rfl, rfl⟩
      · rw [zk k hkK]
        refine ⟨(h.1 k hk).1, fun i hi => ?_⟩
        have q := (h.1 k hk).2 i hi
        rw [keep k (i + 1) hk (by omega), keep k i hk (by omega)]
        refine ⟨q.1, q.2.1, by omega, ?_, ?_⟩
        · rw [va_up_ne ph p (by omega)]; exact q.2.2.2.1
        · rw [va_up_ne pa n (by omega)]; exact q.2.2.2.2
    · intro m hm1 hm2
      by_cases hms : m = sz + 1
      · subst hms
        rw [va_up_self, va_up_self]
        exact ⟨by omega, hp, K, j, by omega, by rw [zK]; omega, hK1⟩
      · obtain ⟨q1, q2, k, i, hk, hi, hq⟩ := h.2.1 m hm1 (by omega)
        rw [va_up_ne ph p hms, va_up_ne pa n hms]
        refine ⟨q1, q2, k, i, hk, ?_, by rw [keep k (i + 1) hk (by omega)]; exact hq⟩
        by_cases hkK : k = K
        · subst hkK; rw [zK]; omega
        · rw [zk k hkK]; exact hi
    · intro m p0 hp0 hne
      by_cases hmp : m * 4 + p0 = n * 4 + p
      · have e1 : m = n := by omega
        have e2 : p0 = p := by omega
        subst e1 e2
        rw [va_up_self, va_up_self, va_up_self]
        exact ⟨by omega, by omega, rfl, rfl⟩
      · rw [va_up_ne ch (sz + 1) hmp] at hne ⊢
        obtain ⟨q1, q2, q3, q4⟩ := h.2.2 m p0 hp0 hne
        rw [va_up_ne pa n (by omega), va_up_ne ph p (by omega)]
        exact ⟨by omega, by omega, q3, q4⟩
  · have e : wt_gr ph pa ch sz (tr_nd ch pn K j) p = (ph, pa, ch, sz, ch (tr_nd ch pn K j * 4 + p)) := if_neg hc
    rw [e]
    show tr_ok (K + 1) (va_up zs K (j + 1)) pn ph pa ch sz ∧ ch (tr_nd ch pn K j * 4 + p) = tr_nd ch pn K (j + 1) ∧ ∀ k i, k < K + 1 → i ≤ zs k → tr_nd ch pn k i = tr_nd ch pn k i
    have hK1 : tr_nd ch pn K (j + 1) = ch (tr_nd ch pn K j * 4 + p) := by
      show ch (tr_nd ch pn K j * 4 + pn (3 * K + j)) = _
      rw [hpn]
    obtain ⟨q1, q2, q3, q4⟩ := h.2.2 _ p hp hc
    refine ⟨⟨?_, ?_, h.2.2⟩, hK1.symm, fun _ _ _ _ => rfl⟩
    · intro k hk
      by_cases hkK : k = K
      · subst hkK
        rw [zK]
        refine ⟨by omega, fun i hi => ?_⟩
        by_cases hij : i < j
        · exact (h.1 k hk).2 i (by omega)
        · rw [show i = j by omega, hK1, hpn]
          exact ⟨hp, by omega, q2, q4, q3⟩
      · rw [zk k hkK]
        exact h.1 k hk
    · intro m hm1 hm2
      obtain ⟨q1, q2, k, i, hk, hi, hq⟩ := h.2.1 m hm1 hm2
      refine ⟨q1, q2, k, i, hk, ?_, hq⟩
      by_cases hkK : k = K
      · subst hkK; rw [zK]; omega
      · rw [zk k hkK]; exact hi
end
section
/-! beginnings that are the first of their kind, and sums over nodes -/
theorem up_congr {σ : Type} {f g : Nat → σ → σ} : ∀ (r i : Nat) (x : σ), (∀ j y, i ≤ j → j < i + r → f j y = g j y) → wt_up f r i x = wt_up g r i x
  | 0, _, _, _ => rfl
  | r + 1, i, x, h => by
    show wt_up f r (i + 1) (f i x) = wt_up g r (i + 1) (g i x)
    rw [h i x (Nat.le_refl i) (by omega)]
    exact up_congr r (i + 1) (g i x) (fun j y h1 h2 => h j y (by omega) (by omega))
theorem bg_false (fp : Nat → Int32) (j k : Nat) : ∀ r i, wt_bg fp j k r i false = false
  | 0, _ => rfl
  | r + 1, i => by
    show (if false = true then wt_bg fp j k r (i + 1) (decide (fp (3 * j + i) = fp (3 * k + i))) else false) = false
    rw [if_neg (by decide)]
theorem bg_iff (fp : Nat → Int32) (j k : Nat) : ∀ r i, wt_bg fp j k r i true = true ↔ ∀ a, a < r → fp (3 * j + (i + a)) = fp (3 * k + (i + a))
  | 0, _ => ⟨fun _ a h => absurd h (Nat.not_lt_zero a), fun _ => rfl⟩
  | r + 1, i => by
    show (if true = true then wt_bg fp j k r (i + 1) (decide (fp (3 * j + i) = fp (3 * k + i))) else true) = true ↔ _
    rw [if_pos rfl]
    by_cases h : fp (3 * j + i) = fp (3 * k + i)
    · rw [decide_eq_true h, bg_iff fp j k r (i + 1)]
      constructor
      · intro q a ha
        cases a with
        | zero => exact h
        | succ a => rw [show i + (a + 1) = i + 1 + a by omega]; exact q a (by omega)
      · intro q a ha
        rw [show i + 1 + a = i + (a + 1) by omega]; exact q (a + 1) (by omega)
    · rw [decide_eq_false h, bg_false]
      constructor
      · intro q; cases q
      · intro q; exact absurd (q 0 (by omega)) h
theorem beg_iff {zs : Nat → Nat} {fp : Nat → Int32} {j k n : Nat} : wt_beg zs fp j k n = true ↔ n ≤ zs j ∧ n ≤ zs k ∧ ∀ a, a < n → fp (3 * j + a) = fp (3 * k + a) := by
  unfold wt_beg
  by_cases h : n ≤ zs j ∧ n ≤ zs k
  · rw [decide_eq_true h.1, decide_eq_true h.2]
    show wt_bg fp j k n 0 true = true ↔ _
    rw [bg_iff]
    constructor
    · intro q; exact ⟨h.1, h.2, fun a ha => by have := q a ha; rw [Nat.zero_add] at this; exact this⟩
    · intro q a ha; rw [Nat.zero_add]; exact q.2.2 a ha
  · have : (decide (n ≤ zs j) && decide (n ≤ zs k)) = false := by
      cases hd : (decide (n ≤ zs j) && decide (n ≤ zs k)) with
      | false => rfl
      | true =>
        rw [Bool.and_eq_true, decide_eq_true_eq, decide_eq_true_eq] at hd
        exact absurd hd h
    rw [this, bg_false]
    constructor
    · intro q; cases q
    · intro q; exact absurd ⟨q.1, q.2.1⟩ h
theorem up_all (g : Nat → Bool) : ∀ (r i : Nat) (b : Bool), wt_up (fun j b => b && !(g j)) r i b = true ↔ b = true ∧ ∀ a, a < r → g (i + a) = false
  | 0, i, b => ⟨fun h => ⟨h, fun a ha => absurd ha (Nat.not_lt_zero a)⟩, fun h => h.1⟩
  | r + 1, i, b => by
    show wt_up (fun j b => b && !(g j)) r (i + 1) (b && !(g i)) = true ↔ _
    rw [up_all g r (i + 1), Bool.and_eq_true, Bool.not_eq_true']
    constructor
    · intro ⟨⟨h1, h2⟩, h3⟩
      refine ⟨h1, fun a ha => ?_⟩
      cases a with
      | zero => exact h2
      | succ a => rw [show i + (a + 1) = i + 1 + a by omega]; exact h3 a (by omega)
    · intro ⟨h1, h2⟩
      refine ⟨⟨h1, h2 0 (by omega)⟩, fun a ha => ?_⟩
      rw [show i + 1 + a = i + (a + 1) by omega]; exact h2 (a + 1) (by omega)
theorem fre_iff {zs : Nat → Nat} {fp : Nat → Int32} {k n : Nat} : wt_fre zs fp k n = true ↔ ∀ j, j < k → ¬ (n ≤ zs j ∧ n ≤ zs k ∧ ∀ a, a < n → fp (3 * j + a) = fp (3 * k + a)) := by
  unfold wt_fre
  rw [up_all (fun j => wt_beg zs fp j k n)]
  constructor
  · intro h j hj q
    have e := h.2 j hj
    rw [Nat.zero_add] at e
    have e2 : wt_beg zs fp j k n = false := e
    rw [beg_iff.mpr q] at e2
    cases e2
  · intro h
    refine ⟨rfl, fun a ha => ?_⟩
    rw [Nat.zero_add]
    cases hb : wt_beg zs fp a k n with
    | false => rfl
    | true => exact absurd (beg_iff.mp hb) (h a ha)
theorem fre_congr {zs zs' : Nat → Nat} {fp fp' : Nat → Int32} {k n : Nat} (h : ∀ j, j < k → ((n ≤ zs j ∧ n ≤ zs k ∧ ∀ a, a < n → fp (3 * j + a) = fp (3 * k + a)) ↔ (n ≤ zs' j ∧ n ≤ zs' k ∧ ∀ a, a < n → fp' (3 * j + a) = fp' (3 * k + a)))) : wt_fre zs fp k n = wt_fre zs' fp' k n := by
  apply Bool.eq_iff_iff.mpr
  rw [fre_iff, fre_iff]
  constructor
  · intro q j hj z; exact q j hj ((h j hj).mpr z)
  · intro q j hj z; exact q j hj ((h j hj).mp z)
theorem nI_inj {a b : Nat} (ha : a < 2 ^ 31) (hb : b < 2 ^ 31) (h : nI a = nI b) : a = b := (nI_eq ha hb).mp h
/-- the sum over the first beginnings of their kind is the sum over the nodes -/
def tr_sum (M : Nat) (zs pn ch : Nat → Nat) (sz : Nat) : Prop :=
  ∀ f : Nat → Nat, sm (fun k => sm (fun i => if wt_fre zs (fun j => nI (pn j)) k (i + 1) = true then f (tr_nd ch pn k (i + 1)) else 0) (zs k)) M = sm (fun n => f (n + 1)) sz
theorem tr_grow_sum {K : Nat} {zs pn ph pa ch : Nat → Nat} {sz j p : Nat} (h : tr_ok (K + 1) zs pn ph pa ch sz) (hs : tr_sum (K + 1) zs pn ch sz) (hj : zs K = j) (hj3 : j < 3) (hp : p < 4) (hpn : pn (3 * K + j) = p) :
    tr_sum (K + 1) (va_up zs K (j + 1)) pn (wt_gr ph pa ch sz (tr_nd ch pn K j) p).2.2.1 (wt_gr ph pa ch sz (tr_nd ch pn K j) p).2.2.2.1 := by
  have zk : ∀ k, k ≠ K → va_up zs K (j + 1) k = zs k := fun k hk => va_up_ne zs (j + 1) hk
  have zK : va_up zs K (j + 1) K = j + 1 := va_up_self zs K (j + 1)
  obtain ⟨h', hn', keep⟩ := tr_grow h hj hj3 hp hpn
  have hch : (wt_gr ph pa ch sz (tr_nd ch pn K j) p).2.2.1 = (wt_gr ph pa ch sz (tr_nd ch pn K j) p).2.2.1 := rfl
  generalize hC : (wt_gr ph pa ch sz (tr_nd ch pn K j) p).2.2.1 = ch' at h' hn' keep
  generalize hS : (wt_gr ph pa ch sz (tr_nd ch pn K j) p).2.2.2.1 = sz' at h'
  generalize hP : (wt_gr ph pa ch sz (tr_nd ch pn K j) p).1 = ph' at h'
  generalize hA : (wt_gr ph pa ch sz (tr_nd ch pn K j) p).2.1 = pa' at h'
  have frk : ∀ k i, k < K → wt_fre (va_up zs K (j + 1)) (fun j => nI (pn j)) k i = wt_fre zs (fun j => nI (pn j)) k i := by
    intro k i hk
    apply fre_congr
    intro a ha
    rw [zk a (by omega), zk k (by omega)]
  have frK : ∀ i, i ≤ j → wt_fre (va_up zs K (j + 1)) (fun j => nI (pn j)) K i = wt_fre zs (fun j => nI (pn j)) K i := by
    intro i hi
    apply fre_congr
    intro a ha
    rw [zk a (by omega), zK, hj]
    constructor
    · intro q; exact ⟨q.1, hi, q.2.2⟩
    · intro q; exact ⟨q.1, by omega, q.2.2⟩
  -- fresh just where the node is new
  have key : wt_fre (va_up zs K (j + 1)) (fun j => nI (pn j)) K (j + 1) = true ↔ ch (tr_nd ch pn K j * 4 + p) = 0 := by
    rw [fre_iff]
    constructor
    · intro q
      by_cases hc : ch (tr_nd ch pn K j * 4 + p) = 0
      · exact hc
      · exfalso
        obtain ⟨q1, q2, q3, q4⟩ := h.2.2 _ p hp hc
        obtain ⟨-, -, k, i, hk, hi, hq⟩ := h.2.1 _ (by omega) q2
        have eK : tr_nd ch' pn K (j + 1) = ch (tr_nd ch pn K j * 4 + p) := by
          rw [← hn']
          have e : wt_gr ph pa ch sz (tr_nd ch pn K j) p = (ph, pa, ch, sz, ch (tr_nd ch pn K j * 4 + p)) := if_neg hc
          rw [e]
        have ek : tr_nd ch' pn k (i + 1) = ch (tr_nd ch pn K j * 4 + p) := by rw [keep k (i + 1) hk hi]; exact hq
        have hzk : i + 1 ≤ va_up zs K (j + 1) k := by
          by_cases hkK : k = K
          · subst hkK; rw [zK]; omega
          · rw [zk k hkK]; exact hi
        obtain ⟨u1, u2⟩ := tr_uniq h' hk (by omega : K < K + 1) (i + 1) (j + 1) hzk (by rw [zK]; omega) (ek.trans eK.symm)
        have hkK : k ≠ K := fun z => by subst z; omega
        exact q k (by omega) ⟨by rw [zk k hkK]; omega, by rw [zK]; omega, fun a ha => by show nI (pn _) = nI (pn _); rw [u2 a (by omega)]⟩
    · intro hc k hk ⟨q1, q2, q3⟩
      rw [zk k (by omega)] at q1
      have e1 : tr_nd ch pn k (j + 1) = tr_nd ch pn K (j + 1) := tr_same (j + 1) (fun a ha => by
        have b1 := ((h.1 k (by omega)).2 a (by omega)).1
        have b2 : pn (3 * K + a) < 4 := by
          by_cases haj : a < j
          · exact ((h.1 K (by omega)).2 a (by omega)).1
          · rw [show a = j by omega, hpn]; exact hp
        exact nI_inj (by omega) (by omega) (q3 a ha))
      have e2 : tr_nd ch pn K (j + 1) = 0 := by
        show ch (tr_nd ch pn K j * 4 + pn (3 * K + j)) = 0
        rw [hpn]; exact hc
      have e3 := ((h.1 k (by omega)).2 j (by omega)).2.1
      omega
  intro f
  have h0 := hs f
  show sm (fun k => sm (fun i => if wt_fre (va_up zs K (j + 1)) (fun j => nI (pn j)) k (i + 1) = true then f (tr_nd ch' pn k (i + 1)) else 0) (va_up zs K (j + 1) k)) K + sm (fun i => if wt_fre (va_up zs K (j + 1)) (fun j => nI (pn j)) K (i + 1) = true then f (tr_nd ch' pn K (i + 1)) else 0) (va_up zs K (j + 1) K) = sm (fun n => f (n + 1)) sz'
  have h0' : sm (fun k => sm (fun i => if wt_fre zs (fun j => nI (pn j)) k (i + 1) = true then f (tr_nd ch pn k (i + 1)) else 0) (zs k)) K + sm (fun i => if wt_fre zs (fun j => nI (pn j)) K (i + 1) = true then f (tr_nd ch pn K (i + 1)) else 0) (zs K) = sm (fun n => f (n + 1)) sz := h0
  have e1 : sm (fun k => sm (fun i => if wt_fre (va_up zs K (j + 1)) (fun j => nI (pn j)) k (i + 1) = true then f (tr_nd ch' pn k (i + 1)) else 0) (va_up zs K (j + 1) k)) K = sm (fun k => sm (fun i => if wt_fre zs (fun j => nI (pn j)) k (i + 1) = true then f (tr_nd ch pn k (i + 1)) else 0) (zs k)) K := by
    apply sm_congr
    intro k hk
    rw [zk k (by omega)]
    apply sm_congr
    intro i hi
    rw [frk k (i + 1) hk, keep k (i + 1) (by omega) hi]
  have e2 : sm (fun i => if wt_fre (va_up zs K (j + 1)) (fun j => nI (pn j)) K (i + 1) = true then f (tr_nd ch' pn K (i + 1)) else 0) j = sm (fun i => if wt_fre zs (fun j => nI (pn j)) K (i + 1) = true then f (tr_nd ch pn K (i + 1)) else 0) (zs K) := by
    rw [hj]
    apply sm_congr
    intro i hi
    rw [frK (i + 1) hi, keep K (i + 1) (by omega) (by omega)]
  rw [e1, zK]
  show _ + (sm (fun i => if wt_fre (va_up zs K (j + 1)) (fun j => nI (pn j)) K (i + 1) = true then f (tr_nd ch' pn K (i + 1)) else 0) j + (if wt_fre (va_up zs K (j + 1)) (fun j => nI (pn j)) K (j + 1) = true then f (tr_nd ch' pn K (j + 1)) else 0)) = _
  rw [e2, ← Nat.add_assoc, h0', ← hn', ← hS]
  by_cases hc : ch (tr_nd ch pn K j * 4 + p) = 0
  · have e : wt_gr ph pa ch sz (tr_nd ch pn K j) p = (va_up ph (sz + 1) p, va_up pa (sz + 1) (tr_nd ch pn K j), va_up ch (tr_nd ch pn K j * 4 + p) (sz + 1), sz + 1, sz + 1) := if_pos hc
    rw [if_pos (key.mpr hc), e]
    rfl
  · have e : wt_gr ph pa ch sz (tr_nd ch pn K j) p = (ph, pa, ch, sz, ch (tr_nd ch pn K j * 4 + p)) := if_neg hc
    rw [if_neg (fun q => hc (key.mp q)), e]
    rfl
end
section
/-! what stands after what: the class's table against the reference's -/
def gr_at (kn : Nat → Bool) (co bo gc gb : Nat → Int32) (k j : Nat) : Prop := gc j = (if kn k = true then co k else -1) ∧ gb j = (if kn k = true then bo k else nI 0) ∧ (kn k = true → ∃ a b : Nat, a < 10000 ∧ b < 10000 ∧ co k = nI a ∧ bo k = nI b)
def gr_rel (kn : Nat → Bool) (co bo gc gb : Nat → Int32) : Prop :=
  (∀ w, w < 5 → gr_at kn co bo gc gb w (wt_sl 0 0 (w + 1))) ∧
  (∀ v w, v < 5 → w < 5 → gr_at kn co bo gc gb (5 + 5 * v + w) (wt_sl 0 (v + 1) (w + 1))) ∧
  (∀ u v w, u < 5 → v < 4 → w < 5 → gr_at kn co bo gc gb (30 + 25 * u + 5 * v + w) (wt_sl (u + 1) (v + 1) (w + 1)))
/-- -1, or a number below B -/
def gr_num (B : Nat) (x : Int32) : Prop := x = -1 ∨ ∃ a : Nat, a < B ∧ x = nI a
theorem gr_bk {kn : Nat → Bool} {co bo gc gb : Nat → Int32} {k j : Nat} (h : gr_at kn co bo gc gb k j) : gb j = wt_bk kn bo k ∧ ∃ b : Nat, b < 10000 ∧ gb j = nI b := by
  obtain ⟨-, h2, h3⟩ := h
  refine ⟨h2, ?_⟩
  cases hk : kn k with
  | true =>
    obtain ⟨a, b, -, hb, -, e⟩ := h3 hk
    exact ⟨b, hb, by rw [h2, if_pos hk, e]⟩
  | false => exact ⟨0, by omega, by rw [h2, if_neg (by rw [hk]; decide)]⟩
theorem gr_af1 {kn : Nat → Bool} {co bo gc gb : Nat → Int32} (h : gr_rel kn co bo gc gb) {v w : Nat} (hv : v < 5) (hw : w < 5) : wt_two gc gb v w = wt_af1 kn co bo v w ∧ gr_num 20000 (wt_af1 kn co bo v w) := by
  obtain ⟨h1, h2, -⟩ := h
  obtain ⟨a1, -, a3⟩ := h2 v w hv hw
  obtain ⟨b1, -, b3⟩ := h1 w hw
  obtain ⟨c1, cb, hcb, c2⟩ := gr_bk (h1 v hv)
  by_cases hk : kn (5 + 5 * v + w) = true
  · obtain ⟨a, b, ha, -, e, -⟩ := a3 hk
    rw [if_pos hk] at a1
    have hne : ¬ gc (wt_sl 0 (v + 1) (w + 1)) = -1 := by rw [a1, e]; exact wt_nI_nem1 (by omega)
    have r1 : wt_two gc gb v w = nI a := by unfold wt_two; rw [if_neg hne, a1, e]
    have r2 : wt_af1 kn co bo v w = nI a := by unfold wt_af1; rw [if_pos hk, e]
    exact ⟨r1.trans r2.symm, Or.inr ⟨a, by omega, r2⟩⟩
  · rw [if_neg hk] at a1
    by_cases hk2 : kn w = true
    · obtain ⟨a, b, ha, -, e, -⟩ := b3 hk2
      rw [if_pos hk2] at b1
      have hne : ¬ gc (wt_sl 0 0 (w + 1)) = -1 := by rw [b1, e]; exact wt_nI_nem1 (by omega)
      have r1 : wt_two gc gb v w = nI (cb + a) := by unfold wt_two; rw [if_pos a1, if_neg hne, b1, e, c2, nI_add]
      have r2 : wt_af1 kn co bo v w = nI (cb + a) := by unfold wt_af1; rw [if_neg hk, if_pos hk2, ← c1, c2, e, nI_add]
      exact ⟨r1.trans r2.symm, Or.inr ⟨cb + a, by omega, r2⟩⟩
    · rw [if_neg hk2] at b1
      have r1 : wt_two gc gb v w = -1 := by unfold wt_two; rw [if_pos a1, if_pos b1]
      have r2 : wt_af1 kn co bo v w = -1 := by unfold wt_af1; rw [if_neg hk, if_neg hk2]
      exact ⟨r1.trans r2.symm, Or.inl r2⟩
theorem gr_aft {kn : Nat → Bool} {co bo gc gb : Nat → Int32} (h : gr_rel kn co bo gc gb) {u v w : Nat} (hu : u < 5) (hv : v < 5) (hw : w < 5) : wt_aft gc gb u v w = wt_afN kn co bo u v w ∧ gr_num 30000 (wt_afN kn co bo u v w) := by
  obtain ⟨e1, e2⟩ := gr_af1 h hv hw
  have wide : gr_num 30000 (wt_af1 kn co bo v w) := e2.elim Or.inl (fun ⟨a, ha, e⟩ => Or.inr ⟨a, by omega, e⟩)
  by_cases h4 : v = 4
  · have r1 : wt_aft gc gb u v w = wt_af1 kn co bo v w := by unfold wt_aft; rw [if_pos h4, e1]
    have r2 : wt_afN kn co bo u v w = wt_af1 kn co bo v w := by unfold wt_afN; rw [if_neg (fun q => q.1 h4), if_pos (Or.inr h4)]
    exact ⟨r1.trans r2.symm, by rw [r2]; exact wide⟩
  · obtain ⟨a1, -, a3⟩ := h.2.2 u v w hu (by omega) hw
    obtain ⟨c1, cb, hcb, c2⟩ := gr_bk (h.2.1 u v hu hv)
    by_cases hk : kn (30 + 25 * u + 5 * v + w) = true
    · obtain ⟨a, b, ha, -, e, -⟩ := a3 hk
      rw [if_pos hk] at a1
      have hne : ¬ gc (wt_sl (u + 1) (v + 1) (w + 1)) = -1 := by rw [a1, e]; exact wt_nI_nem1 (by omega)
      have r1 : wt_aft gc gb u v w = nI a := by unfold wt_aft; rw [if_neg h4, if_neg hne, a1, e]
      have r2 : wt_afN kn co bo u v w = nI a := by unfold wt_afN; rw [if_pos ⟨h4, hk⟩, e]
      exact ⟨r1.trans r2.symm, Or.inr ⟨a, by omega, r2⟩⟩
    · rw [if_neg hk] at a1
      rcases e2 with e2 | ⟨a, ha, e2⟩
      · have r1 : wt_aft gc gb u v w = -1 := by unfold wt_aft; rw [if_neg h4, if_pos a1, if_pos (by rw [e1]; exact e2)]
        have r2 : wt_afN kn co bo u v w = -1 := by unfold wt_afN; rw [if_neg (fun q => hk q.2), if_pos (Or.inl (by rw [e2]; decide)), e2]
        exact ⟨r1.trans r2.symm, Or.inl r2⟩
      · have hne : ¬ wt_two gc gb v w = -1 := by rw [e1, e2]; exact wt_nI_nem1 (by omega)
        have hpos : ¬ (wt_af1 kn co bo v w < 0 ∨ v = 4) := fun q => q.elim (fun z => by rw [e2] at z; exact nI_pos (by omega) z) h4
        have r1 : wt_aft gc gb u v w = nI (a + cb) := by unfold wt_aft; rw [if_neg h4, if_pos a1, if_neg hne, e1, e2, c2, nI_add, Nat.add_comm]
        have r2 : wt_afN kn co bo u v w = nI (a + cb) := by unfold wt_afN; rw [if_neg (fun q => hk q.2), if_neg hpos, e2, ← c1, c2, nI_add]
        exact ⟨r1.trans r2.symm, Or.inr ⟨a + cb, by omega, r2⟩⟩
end
section
/-! tokens in their order: x ≤ a token, for every whole number x -/
abbrev tI (t : Int64) : Int := t.toInt
theorem tI_lm (a b : Int64) (x : Int) : x ≤ tI (wt_lm a b) ↔ x ≤ tI a ∧ x ≤ tI b := by
  unfold wt_lm
  by_cases h : b < a
  · rw [if_pos h]
    have : tI b < tI a := Int64.lt_iff_toInt_lt.mp h
    constructor
    · intro q; exact ⟨by omega, q⟩
    · intro q; exact q.2
  · rw [if_neg h]
    have : ¬ tI b < tI a := fun q => h (Int64.lt_iff_toInt_lt.mpr q)
    constructor
    · intro q; exact ⟨q, by omega⟩
    · intro q; exact q.1
theorem tI_ext {a b : Int64} (h : ∀ x : Int, x ≤ tI a ↔ x ≤ tI b) : a = b := by
  have h1 := (h (tI a)).mp (Int.le_refl _)
  have h2 := (h (tI b)).mpr (Int.le_refl _)
  exact Int64.toInt_inj.mp (Int.le_antisymm h1 h2)
theorem tI_dead : tI wt_dead = 4611686018427387904 := by decide
theorem tI_lN {a : Nat} (h : a < 2 ^ 63) : tI (lN a) = (a : Int) := pf_lI h
/-- dead, or a number that is far below -/
def tk_ok (t : Int64) : Prop := t = wt_dead ∨ ∃ a : Nat, a < 2 ^ 60 ∧ t = lN a
theorem tk_le {t : Int64} (h : tk_ok t) : tI t ≤ 4611686018427387904 := by
  rcases h with rfl | ⟨a, ha, rfl⟩
  · rw [tI_dead]; exact Int.le_refl _
  · rw [tI_lN (by omega)]; omega
theorem tk_gal {t : Int64} (h : tk_ok t) {k : Nat} (hk : k < 2 ^ 20) (x : Int) : x ≤ tI (wt_pc t (nI k)) ↔ x ≤ 4611686018427387904 ∧ x - (k : Int) * 65536 ≤ tI t := by
  rcases h with rfl | ⟨a, ha, rfl⟩
  · rw [tk_pc_dead, tI_dead]
    constructor
    · intro q; exact ⟨q, by omega⟩
    · intro q; exact q.1
  · rw [tk_pc (by omega) (by omega), tI_lN (by omega), tI_lN (by omega)]
    constructor
    · intro q; exact ⟨by omega, by omega⟩
    · intro q; omega
theorem tk_galm (t : Int64) (x : Int) : x ≤ tI (wt_pc t (-1)) ↔ x ≤ 4611686018427387904 := by rw [tk_pc_m1, tI_dead]
theorem tk_ok_lm {a b : Int64} (ha : tk_ok a) (hb : tk_ok b) : tk_ok (wt_lm a b) := by
  unfold wt_lm
  split
  · exact hb
  · exact ha
theorem tk_ok_dead : tk_ok wt_dead := Or.inl rfl
/-- a min put in its place -/
theorem tI_upd (f : Nat → Int64) (k : Nat) (y : Int64) (j : Nat) (x : Int) : x ≤ tI (vp_updL f k (wt_lm (f k) y) j) ↔ x ≤ tI (f j) ∧ (j = k → x ≤ tI y) := by
  by_cases h : j = k
  · subst h
    rw [pk_uLs, tI_lm]
    constructor
    · intro q; exact ⟨q.1, fun _ => q.2⟩
    · intro q; exact ⟨q.1, q.2 rfl⟩
  · rw [pk_uLn h]
    constructor
    · intro q; exact ⟨q, fun z => absurd z h⟩
    · intro q; exact q.1
/-- a loop of such steps -/
theorem up_le {C : Nat → Nat → Int → Prop} {I : (Nat → Int64) → Prop} {step : Nat → (Nat → Int64) → (Nat → Int64)} {n0 : Nat} :
    ∀ (r i : Nat) (f : Nat → Int64), I f → (∀ k g, i ≤ k → k < i + r → I g → I (step k g)) → (∀ k g, i ≤ k → k < i + r → I g → ∀ j x, j < n0 → (x ≤ tI (step k g j) ↔ x ≤ tI (g j) ∧ C k j x)) →
      I (wt_up step r i f) ∧ ∀ j x, j < n0 → (x ≤ tI (wt_up step r i f j) ↔ x ≤ tI (f j) ∧ ∀ k, i ≤ k → k < i + r → C k j x)
  | 0, i, f, hI, _, _ => ⟨hI, fun j x _ => ⟨fun q => ⟨q, fun k h1 h2 => absurd h2 (by omega)⟩, fun q => q.1⟩⟩
  | r + 1, i, f, hI, hk, hs => by
    have ih := up_le (C := C) (I := I) (step := step) (n0 := n0) r (i + 1) (step i f) (hk i f (Nat.le_refl i) (by omega) hI) (fun k g h1 h2 => hk k g (by omega) (by omega)) (fun k g h1 h2 => hs k g (by omega) (by omega))
    refine ⟨ih.1, fun j x hj => ?_⟩
    show x ≤ tI (wt_up step r (i + 1) (step i f) j) ↔ _
    rw [ih.2 j x hj, hs i f (Nat.le_refl i) (by omega) hI j x hj]
    constructor
    · intro ⟨⟨q1, q2⟩, q3⟩
      refine ⟨q1, fun k h1 h2 => ?_⟩
      by_cases hki : k = i
      · subst hki; exact q2
      · exact q3 k (by omega) (by omega)
    · intro ⟨q1, q2⟩
      exact ⟨⟨q1, q2 i (Nat.le_refl i) (by omega)⟩, fun k h1 h2 => q2 k (by omega) (by omega)⟩
def tk_b (m : Nat) (t : Int64) : Prop := t = wt_dead ∨ ∃ a : Nat, a < m ∧ t = lN a
theorem tk_b_ok {m : Nat} {t : Int64} (h : tk_b m t) (hm : m ≤ 2 ^ 60) : tk_ok t := h.elim Or.inl (fun ⟨a, ha, e⟩ => Or.inr ⟨a, by omega, e⟩)
theorem tk_b_pc {m : Nat} {t : Int64} (h : tk_b m t) (hm : m ≤ 2 ^ 60) {k : Nat} (hk : k < 2 ^ 20) : tk_b (m + 2 ^ 36) (wt_pc t (nI k)) := by
  rcases h with rfl | ⟨a, ha, rfl⟩
  · rw [tk_pc_dead]; exact Or.inl rfl
  · rw [tk_pc (by omega) (by omega)]
    exact Or.inr ⟨_, by omega, rfl⟩
theorem tk_b_lm {m : Nat} {a b : Int64} (ha : tk_b m a) (hb : tk_b m b) : tk_b m (wt_lm a b) := by
  unfold wt_lm
  split
  · exact hb
  · exact ha
theorem tk_b_up {m m' : Nat} {t : Int64} (h : tk_b m t) (hm : m ≤ m') : tk_b m' t := h.elim Or.inl (fun ⟨a, ha, e⟩ => Or.inr ⟨a, by omega, e⟩)
end
section
/-! a frame is heard: every place from the older tokens -/
theorem pl_inj {c n s c' n' s' : Nat} (hn : n < 25) (hs : s < 3) (hn' : n' < 25) (hs' : s' < 3) (h : wt_pl c n s = wt_pl c' n' s') : c = c' ∧ n = n' ∧ s = s' := by
  unfold wt_pl at h
  omega
def hr_F (ph pa : Nat → Nat) (sc sh sl : Nat → Int32) (wt : Nat → Int64) (t : Nat) (tok : Nat → Int64) (c n s : Nat) : Int64 := wt_pc (wt_lm (wt_pc (tok (wt_pl c n s)) (sh s)) (wt_cm pa sl tok wt c n s)) (sc (t * 12 + ph n * 3 + s))
theorem hr_congr {ph pa : Nat → Nat} {sc sh sl : Nat → Int32} {wt : Nat → Int64} {t : Nat} {tok tok' : Nat → Int64} {c n s : Nat} (h1 : tok' (wt_pl c n s) = tok (wt_pl c n s)) (h2 : 0 < s → tok' (wt_pl c n (s - 1)) = tok (wt_pl c n (s - 1))) (h3 : s = 0 → pa n ≠ 0 → tok' (wt_pl c (pa n) 2) = tok (wt_pl c (pa n) 2)) : hr_F ph pa sc sh sl wt t tok' c n s = hr_F ph pa sc sh sl wt t tok c n s := by
  have e : wt_cm pa sl tok' wt c n s = wt_cm pa sl tok wt c n s := by
    unfold wt_cm wt_lv
    by_cases hs : 0 < s
    · rw [if_pos hs, if_pos hs, h2 hs]
    · rw [if_neg hs, if_neg hs]
      by_cases hp : pa n = 0
      · rw [if_pos hp, if_pos hp]
      · rw [if_neg hp, if_neg hp, h3 (by omega) hp]
  unfold hr_F
  rw [h1, e]
theorem hr_h1 (ph pa : Nat → Nat) (sc sh sl : Nat → Int32) (wt : Nat → Int64) (t c n s : Nat) (tok : Nat → Int64) : wt_h1 ph pa sc sh sl wt t c n s tok = vp_updL tok (wt_pl c n s) (hr_F ph pa sc sh sl wt t tok c n s) := rfl
theorem hr_hn {ph pa : Nat → Nat} {sc sh sl : Nat → Int32} {wt : Nat → Int64} {t c n : Nat} (hn : n < 25) (hpa : pa n < n) (tok : Nat → Int64) :
    (∀ s, s < 3 → wt_hn ph pa sc sh sl wt t c n tok (wt_pl c n s) = hr_F ph pa sc sh sl wt t tok c n s) ∧ ∀ j, (∀ s, s < 3 → j ≠ wt_pl c n s) → wt_hn ph pa sc sh sl wt t c n tok j = tok j := by
  have e : wt_hn ph pa sc sh sl wt t c n tok = wt_h1 ph pa sc sh sl wt t c n 0 (wt_h1 ph pa sc sh sl wt t c n 1 (wt_h1 ph pa sc sh sl wt t c n 2 tok)) := rfl
  have d01 : wt_pl c n 0 ≠ wt_pl c n 1 := fun q => absurd (pl_inj hn (by decide) hn (by decide) q).2.2 (by decide)
  have d02 : wt_pl c n 0 ≠ wt_pl c n 2 := fun q => absurd (pl_inj hn (by decide) hn (by decide) q).2.2 (by decide)
  have d12 : wt_pl c n 1 ≠ wt_pl c n 2 := fun q => absurd (pl_inj hn (by decide) hn (by decide) q).2.2 (by decide)
  have dp : ∀ s, s < 3 → wt_pl c (pa n) 2 ≠ wt_pl c n s := fun s hs q => absurd (pl_inj (by omega) (by decide) hn hs q).2.1 (by omega)
  rw [e, hr_h1, hr_h1, hr_h1]
  constructor
  · intro s hs
    rcases (show s = 0 ∨ s = 1 ∨ s = 2 by omega) with rfl | rfl | rfl
    · rw [pk_uLs]
      refine hr_congr ?_ (fun q => absurd q (by decide)) (fun _ _ => ?_)
      · rw [pk_uLn d01, pk_uLn d02]
      · rw [pk_uLn (dp 1 (by decide)), pk_uLn (dp 2 (by decide))]
    · rw [pk_uLn d01.symm, pk_uLs]
      refine hr_congr ?_ (fun _ => ?_) (fun q => absurd q (by decide))
      · rw [pk_uLn d12]
      · rw [pk_uLn d02]
    · rw [pk_uLn d02.symm, pk_uLn d12.symm, pk_uLs]
  · intro j hj
    rw [pk_uLn (hj 0 (by decide)), pk_uLn (hj 1 (by decide)), pk_uLn (hj 2 (by decide))]
theorem hr_hear {ph pa : Nat → Nat} {sc sh sl : Nat → Int32} {wt : Nat → Int64} {t c : Nat} : ∀ (r : Nat), r < 25 → (∀ n, 1 ≤ n → n ≤ r → pa n < n) → ∀ (tok : Nat → Int64),
    (∀ n s, 1 ≤ n → n ≤ r → s < 3 → wt_hear ph pa r sc sh sl wt t c tok (wt_pl c n s) = hr_F ph pa sc sh sl wt t tok c n s) ∧ ∀ j, (∀ n s, 1 ≤ n → n ≤ r → s < 3 → j ≠ wt_pl c n s) → wt_hear ph pa r sc sh sl wt t c tok j = tok j := by
  intro r
  induction r with
  | zero => intro _ _ tok; exact ⟨fun n s h1 h2 => absurd h2 (by omega), fun j _ => rfl⟩
  | succ r ih =>
    intro hr hpa tok
    have e : wt_hear ph pa (r + 1) sc sh sl wt t c tok = wt_hear ph pa r sc sh sl wt t c (wt_hn ph pa sc sh sl wt t c (r + 1) tok) := rfl
    obtain ⟨a1, a2⟩ := hr_hn (ph := ph) (sc := sc) (sh := sh) (sl := sl) (wt := wt) (t := t) (c := c) (n := r + 1) hr (hpa (r + 1) (by omega) (by omega)) tok
    obtain ⟨b1, b2⟩ := ih (by omega) (fun n h1 h2 => hpa n h1 (by omega)) (wt_hn ph pa sc sh sl wt t c (r + 1) tok)
    have off : ∀ n s, n ≤ r → s < 3 → wt_hn ph pa sc sh sl wt t c (r + 1) tok (wt_pl c n s) = tok (wt_pl c n s) := fun n s h2 hs => a2 _ (fun s' hs' q => absurd (pl_inj (by omega) hs hr hs' q).2.1 (by omega))
    rw [e]
    constructor
    · intro n s h1 h2 hs
      by_cases hn : n = r + 1
      · subst hn
        rw [b2 _ (fun n' s' g1 g2 hs' q => absurd (pl_inj hr hs (by omega) hs' q).2.1 (by omega)), a1 s hs]
      · rw [b1 n s h1 (by omega) hs]
        have hp := hpa n h1 h2
        exact hr_congr (off n s (by omega) hs) (fun _ => off n (s - 1) (by omega) (by omega)) (fun _ _ => off (pa n) 2 (by omega) (by decide))
    · intro j hj
      rw [b2 j (fun n s h1 h2 hs => hj n s h1 (by omega) hs), a2 j (fun s hs => hj (r + 1) s (by omega) (by omega) hs)]
theorem hr_all {ph pa : Nat → Nat} {sz : Nat} {sc sh sl : Nat → Int32} {wt : Nat → Int64} {t : Nat} (hsz : sz < 25) (hpa : ∀ n, 1 ≤ n → n ≤ sz → pa n < n) : ∀ (r i : Nat) (tok : Nat → Int64),
    (∀ c n s, i ≤ c → c < i + r → 1 ≤ n → n ≤ sz → s < 3 → wt_up (fun c tok => wt_hear ph pa sz sc sh sl wt t c tok) r i tok (wt_pl c n s) = hr_F ph pa sc sh sl wt t tok c n s) ∧
    ∀ j, (∀ c n s, i ≤ c → c < i + r → 1 ≤ n → n ≤ sz → s < 3 → j ≠ wt_pl c n s) → wt_up (fun c tok => wt_hear ph pa sz sc sh sl wt t c tok) r i tok j = tok j
  | 0, i, tok => ⟨fun c n s h1 h2 => absurd h2 (by omega), fun j _ => rfl⟩
  | r + 1, i, tok => by
    obtain ⟨a1, a2⟩ := hr_hear (ph := ph) (sc := sc) (sh := sh) (sl := sl) (wt := wt) (t := t) (c := i) sz hsz hpa tok
    obtain ⟨b1, b2⟩ := hr_all (ph := ph) (sc := sc) (sh := sh) (sl := sl) (wt := wt) (t := t) hsz hpa r (i + 1) (wt_hear ph pa sz sc sh sl wt t i tok)
    have off : ∀ c n s, c ≠ i → n < 25 → s < 3 → wt_hear ph pa sz sc sh sl wt t i tok (wt_pl c n s) = tok (wt_pl c n s) := fun c n s hc hn hs => a2 _ (fun n' s' g1 g2 hs' q => absurd (pl_inj hn hs (by omega) hs' q).1 hc)
    constructor
    · intro c n s h1 h2 h3 h4 hs
      show wt_up (fun c tok => wt_hear ph pa sz sc sh sl wt t c tok) r (i + 1) (wt_hear ph pa sz sc sh sl wt t i tok) (wt_pl c n s) = _
      by_cases hc : c = i
      · subst hc
        rw [b2 _ (fun c' n' s' g1 g2 g3 g4 hs' q => absurd (pl_inj (by omega) hs (by omega) hs' q).1 (by omega)), a1 n s h3 h4 hs]
      · rw [b1 c n s (by omega) (by omega) h3 h4 hs]
        have hp := hpa n h3 h4
        exact hr_congr (off c n s hc (by omega) hs) (fun _ => off c n (s - 1) hc (by omega) (by omega)) (fun _ _ => off c (pa n) 2 hc (by omega) (by decide))
    · intro j hj
      show wt_up (fun c tok => wt_hear ph pa sz sc sh sl wt t c tok) r (i + 1) (wt_hear ph pa sz sc sh sl wt t i tok) j = _
      rw [b2 j (fun c n s h1 h2 => hj c n s (by omega) (by omega)), a2 j (fun n s h1 h2 hs => hj i n s (by omega) (by omega) h1 h2 hs)]
end
section
/-! the tokens that wait at the root -/
def wa_z (gc gb sl : Nat → Int32) (tok : Nat → Int64) (c n w : Nat) : Int64 := wt_pw (wt_pc (wt_lv sl tok c n 2) (wt_aft gc gb (c / 5) (c % 5) w)) (nI w)
theorem wa_all {en : Nat → Bool} {sz : Nat} {gc gb sl : Nat → Int32} {tok : Nat → Int64} (hz : ∀ c n w, c < 25 → 1 ≤ n → n ≤ sz → w < 4 → en (n * 4 + w) = true → tk_b (2 ^ 42) (wa_z gc gb sl tok c n w)) :
    (∀ j, tk_b (2 ^ 42) (wt_ea en sz gc gb sl tok j)) ∧ ∀ j x, j < 25 → (x ≤ tI (wt_ea en sz gc gb sl tok j) ↔ x ≤ 4611686018427387904 ∧ ∀ c n w, c < 25 → 1 ≤ n → n ≤ sz → w < 4 → en (n * 4 + w) = true → j = wt_cx (c % 5) w → x ≤ tI (wa_z gc gb sl tok c n w)) := by
  have s1 : ∀ c n, c < 25 → 1 ≤ n → n ≤ sz → ∀ (w : Nat) (g : Nat → Int64), w < 4 → (∀ j, tk_b (2 ^ 42) (g j)) → (∀ j, tk_b (2 ^ 42) (wt_e1 en gc gb c n (wt_lv sl tok c n 2) w g j)) ∧ ∀ j x, j < 25 → (x ≤ tI (wt_e1 en gc gb c n (wt_lv sl tok c n 2) w g j) ↔ x ≤ tI (g j) ∧ ((¬ wt_lv sl tok c n 2 = wt_dead ∧ en (n * 4 + w) = true) → j = wt_cx (c % 5) w → x ≤ tI (wa_z gc gb sl tok c n w))) := by
    intro c n hc h1 h2 w g hw hg
    unfold wt_e1
    by_cases h : ¬ wt_lv sl tok c n 2 = wt_dead ∧ en (n * 4 + w) = true
    · rw [if_pos h]
      constructor
      · intro j
        by_cases hj : j = wt_cx (c % 5) w
        · rw [hj, pk_uLs]; exact tk_b_lm (hg _) (hz c n w hc h1 h2 hw h.2)
        · rw [pk_uLn hj]; exact hg j
      · intro j x _
        rw [tI_upd]
        constructor
        · intro q; exact ⟨q.1, fun _ => q.2⟩
        · intro q; exact ⟨q.1, q.2 h⟩
    · rw [if_neg h]
      exact ⟨hg, fun j x _ => ⟨fun q => ⟨q, fun z => absurd z h⟩, fun q => q.1⟩⟩
  have s2 : ∀ c n, c < 25 → 1 ≤ n → n ≤ sz → ∀ (g : Nat → Int64), (∀ j, tk_b (2 ^ 42) (g j)) → (∀ j, tk_b (2 ^ 42) (wt_en en gc gb sl tok c n g j)) ∧ ∀ j x, j < 25 → (x ≤ tI (wt_en en gc gb sl tok c n g j) ↔ x ≤ tI (g j) ∧ ∀ w, 0 ≤ w → w < 0 + 4 → ((¬ wt_lv sl tok c n 2 = wt_dead ∧ en (n * 4 + w) = true) → j = wt_cx (c % 5) w → x ≤ tI (wa_z gc gb sl tok c n w))) := by
    intro c n hc h1 h2 g hg
    exact up_le (I := fun g => ∀ j, tk_b (2 ^ 42) (g j)) (C := fun w j x => (¬ wt_lv sl tok c n 2 = wt_dead ∧ en (n * 4 + w) = true) → j = wt_cx (c % 5) w → x ≤ tI (wa_z gc gb sl tok c n w)) (n0 := 25) 4 0 g hg (fun w g _ hw hg => (s1 c n hc h1 h2 w g (by omega) hg).1) (fun w g _ hw hg => (s1 c n hc h1 h2 w g (by omega) hg).2)
  have s3 : ∀ c, c < 25 → ∀ (g : Nat → Int64), (∀ j, tk_b (2 ^ 42) (g j)) → (∀ j, tk_b (2 ^ 42) (wt_end en sz gc gb sl tok c g j)) ∧ ∀ j x, j < 25 → (x ≤ tI (wt_end en sz gc gb sl tok c g j) ↔ x ≤ tI (g j) ∧ ∀ n, 1 ≤ n → n < 1 + sz → ∀ w, 0 ≤ w → w < 0 + 4 → ((¬ wt_lv sl tok c n 2 = wt_dead ∧ en (n * 4 + w) = true) → j = wt_cx (c % 5) w → x ≤ tI (wa_z gc gb sl tok c n w))) := by
    intro c hc g hg
    exact up_le (I := fun g => ∀ j, tk_b (2 ^ 42) (g j)) (C := fun n j x => ∀ w, 0 ≤ w → w < 0 + 4 → ((¬ wt_lv sl tok c n 2 = wt_dead ∧ en (n * 4 + w) = true) → j = wt_cx (c % 5) w → x ≤ tI (wa_z gc gb sl tok c n w))) (n0 := 25) sz 1 g hg (fun n g h1 h2 hg => (s2 c n hc h1 (by omega) g hg).1) (fun n g h1 h2 hg => (s2 c n hc h1 (by omega) g hg).2)
  have s4 := up_le (I := fun g => ∀ j, tk_b (2 ^ 42) (g j)) (C := fun c j x => ∀ n, 1 ≤ n → n < 1 + sz → ∀ w, 0 ≤ w → w < 0 + 4 → ((¬ wt_lv sl tok c n 2 = wt_dead ∧ en (n * 4 + w) = true) → j = wt_cx (c % 5) w → x ≤ tI (wa_z gc gb sl tok c n w))) (n0 := 25) (step := fun c wt => wt_end en sz gc gb sl tok c wt) 25 0 (fun _ => wt_dead) (fun _ => Or.inl rfl) (fun c g h1 h2 hg => (s3 c (by omega) g hg).1) (fun c g h1 h2 hg => (s3 c (by omega) g hg).2)
  refine ⟨s4.1, fun j x hj => ?_⟩
  have e : x ≤ tI (wt_ea en sz gc gb sl tok j) ↔ _ := s4.2 j x hj
  rw [e, tI_dead]
  constructor
  · intro ⟨q1, q2⟩
    refine ⟨q1, fun c n w hc h1 h2 hw hen hjw => ?_⟩
    by_cases hd : wt_lv sl tok c n 2 = wt_dead
    · unfold wa_z
      rw [hd, tk_pc_dead, tk_pw_dead, tI_dead]
      exact q1
    · exact q2 c (by omega) (by omega) n h1 (by omega) w (by omega) (by omega) ⟨hd, hen⟩ hjw
  · intro ⟨q1, q2⟩
    exact ⟨q1, fun c _ hc n h1 h2 w _ hw hq hjw => q2 c n w (by omega) h1 (by omega) (by omega) hq.2 hjw⟩
end
section
/-! the reference's three numbers (cost, words, which) as one token -/
def enc (x d w : Int32) : Int64 := if x < 0 then wt_dead else lN (x.toNatClampNeg * 65536 + d.toNatClampNeg * 1024 + w.toNatClampNeg)
def tri (T p : Nat) (x d w : Int32) : Prop := x = -1 ∨ ∃ a b c : Nat, x = nI a ∧ d = nI b ∧ w = nI c ∧ a < 50000 * T ∧ 3 * b + p + 1 ≤ T ∧ c < 4 ^ b
theorem enc_m1 (d w : Int32) : enc (-1) d w = wt_dead := if_pos (by decide)
theorem enc_n {a b c : Nat} (ha : a < 2 ^ 31) (hb : b < 2 ^ 31) (hc : c < 2 ^ 31) : enc (nI a) (nI b) (nI c) = lN (a * 65536 + b * 1024 + c) := by
  unfold enc
  rw [if_neg (nI_pos ha), nI_clamp ha, nI_clamp hb, nI_clamp hc]
theorem p4_le {b m : Nat} (h : b ≤ m) : 4 ^ b ≤ 4 ^ m := Nat.pow_le_pow_right (by decide) h
theorem tri_ok {T p : Nat} (hT : T ≤ 17) {x d w : Int32} (h : tri T p x d w) : tk_ok (enc x d w) := by
  rcases h with rfl | ⟨a, b, c, rfl, rfl, rfl, ha, hb, hc⟩
  · rw [enc_m1]; exact tk_ok_dead
  · have := p4_le (show b ≤ 5 by omega)
    have e5 : (4 : Nat) ^ 5 = 1024 := rfl
    rw [enc_n (by omega) (by omega) (by omega)]
    exact Or.inr ⟨_, by omega, rfl⟩
theorem tri_dead {T p : Nat} (hT : T ≤ 17) {x d w : Int32} (h : tri T p x d w) : enc x d w = wt_dead ↔ x = -1 := by
  rcases h with rfl | ⟨a, b, c, rfl, rfl, rfl, ha, hb, hc⟩
  · rw [enc_m1]; exact ⟨fun _ => rfl, fun _ => rfl⟩
  · have := p4_le (show b ≤ 5 by omega)
    have e5 : (4 : Nat) ^ 5 = 1024 := rfl
    rw [enc_n (by omega) (by omega) (by omega)]
    exact ⟨fun q => absurd q (tk_ne (by omega)), fun q => absurd q (wt_nI_nem1 (by omega))⟩
/-- better is less -/
theorem bet_iff {T p q : Nat} (hT : T ≤ 17) {a b c : Nat} (ha : a < 50000 * T) (hb : 3 * b + p + 1 ≤ T) (hc : c < 4 ^ b) {x d w : Int32} (h : tri T q x d w) : wt_bet (nI a) (nI b) (nI c) x d w = true ↔ enc (nI a) (nI b) (nI c) < enc x d w := by
  have k1 := p4_le (show b ≤ 5 by omega)
  have e5 : (4 : Nat) ^ 5 = 1024 := rfl
  rw [enc_n (by omega) (by omega) (by omega)]
  rcases h with rfl | ⟨a', b', c', rfl, rfl, rfl, ha', hb', hc'⟩
  · rw [enc_m1, tk_dead, pk_lLT (by omega) (by decide)]
    constructor
    · intro _; omega
    · intro _; unfold wt_bet; rw [decide_eq_true (show (-1 : Int32) < 0 by decide)]; rfl
  · have k2 := p4_le (show b' ≤ 5 by omega)
    rw [enc_n (by omega) (by omega) (by omega), pk_lLT (by omega) (by omega)]
    unfold wt_bet
    rw [decide_eq_false (nI_pos (show a' < 2 ^ 31 by omega))]
    simp only [Bool.false_or, Bool.or_eq_true, Bool.and_eq_true, decide_eq_true_eq]
    rw [nI_ltI (by omega) (by omega), nI_eq (by omega) (by omega), nI_ltI (by omega) (by omega), nI_eq (by omega) (by omega), nI_ltI (by omega) (by omega)]
    constructor
    · intro h; omega
    · intro h; omega
def EN (x : wt_N) (j : Nat) : Int64 := enc (x.1 j) (x.2.1 j) (x.2.2 j)
/-- all that lives is at a place, and small -/
def tri_all (T mn : Nat) (zs : Nat → Nat) (x : wt_N) : Prop := ∀ j, j < 1800 → (x.1 j = -1 ∨ (j / 225 < mn ∧ j / 25 % 9 < 3 * zs (j / 225))) ∧ tri T (j / 25 % 9) (x.1 j) (x.2.1 j) (x.2.2 j)
theorem put_spec {T mn : Nat} {zs : Nat → Nat} (hT : T ≤ 17) {x : wt_N} {k p uv : Nat} {v d w : Int32} (hx : tri_all T mn zs x) (hk : k < mn) (hk8 : k < 8) (hp : p < 3 * zs k) (hp9 : p < 9) (huv : uv < 25) (hv : ¬ v = -1) (hn : tri T p v d w) :
    tri_all T mn zs (wt_put x (225 * k + 25 * p + uv) v d w) ∧ ∀ j z, j < 1800 → (z ≤ tI (EN (wt_put x (225 * k + 25 * p + uv) v d w) j) ↔ z ≤ tI (EN x j) ∧ (j = 225 * k + 25 * p + uv → z ≤ tI (enc v d w))) := by
  have i1 : (225 * k + 25 * p + uv) / 225 = k := by omega
  have i2 : (225 * k + 25 * p + uv) / 25 % 9 = p := by omega
  obtain ⟨-, ho⟩ := hx (225 * k + 25 * p + uv) (by omega)
  rcases hn with hn | ⟨a, b, c, rfl, rfl, rfl, ha, hb, hc⟩
  · exact absurd hn hv
  · have hbt := bet_iff hT ha hb hc ho
    have hnt : tri T p (nI a) (nI b) (nI c) := Or.inr ⟨a, b, c, rfl, rfl, rfl, ha, hb, hc⟩
    unfold wt_put
    by_cases hq : wt_bet (nI a) (nI b) (nI c) (x.1 (225 * k + 25 * p + uv)) (x.2.1 (225 * k + 25 * p + uv)) (x.2.2 (225 * k + 25 * p + uv)) = true
    · rw [if_pos hq]
      have hlt : tI (enc (nI a) (nI b) (nI c)) < tI (enc (x.1 (225 * k + 25 * p + uv)) (x.2.1 (225 * k + 25 * p + uv)) (x.2.2 (225 * k + 25 * p + uv))) := Int64.lt_iff_toInt_lt.mp (hbt.mp hq)
      constructor
      · intro j hj
        by_cases hjt : j = 225 * k + 25 * p + uv
        · subst hjt
          show (upd _ _ _ _ = -1 ∨ _) ∧ tri T _ (upd _ _ _ _) (upd _ _ _ _) (upd _ _ _ _)
          rw [pk_us, pk_us, pk_us, i1, i2]
          exact ⟨Or.inr ⟨hk, hp⟩, hnt⟩
        · show (upd _ _ _ _ = -1 ∨ _) ∧ tri T _ (upd _ _ _ _) (upd _ _ _ _) (upd _ _ _ _)
          rw [pk_un hjt, pk_un hjt, pk_un hjt]
          exact hx j hj
      · intro j z hj
        by_cases hjt : j = 225 * k + 25 * p + uv
        · subst hjt
          show z ≤ tI (enc (upd _ _ _ _) (upd _ _ _ _) (upd _ _ _ _)) ↔ _
          rw [pk_us, pk_us, pk_us]
          constructor
          · intro g; exact ⟨by unfold EN; omega, fun _ => g⟩
          · intro g; exact g.2 rfl
        · show z ≤ tI (enc (upd _ _ _ _) (upd _ _ _ _) (upd _ _ _ _)) ↔ _
          rw [pk_un hjt, pk_un hjt, pk_un hjt]
          exact ⟨fun g => ⟨g, fun q => absurd q hjt⟩, fun g => g.1⟩
    · rw [if_neg hq]
      have hge : ¬ tI (enc (nI a) (nI b) (nI c)) < tI (EN x (225 * k + 25 * p + uv)) := fun g => hq (hbt.mpr (Int64.lt_iff_toInt_lt.mpr g))
      refine ⟨hx, fun j z hj => ⟨fun g => ⟨g, fun q => by subst q; omega⟩, fun g => g.1⟩⟩
end
section
/-! a frame in the reference -/
def dt_ok (mn : Nat) (zs wd pn ph pa ch : Nat → Nat) (sz : Nat) (en : Nat → Bool) (kn : Nat → Bool) (co bo gc gb sc sh sl : Nat → Int32) : Prop :=
  mn ≤ 8 ∧ (∀ k, k < mn → 1 ≤ zs k ∧ wd k < 4) ∧ tr_ok mn zs pn ph pa ch sz ∧ sz ≤ 24 ∧ (∀ n w, 1 ≤ n → n ≤ sz → w < 4 → (en (n * 4 + w) = true ↔ ∃ k, k < mn ∧ wd k = w ∧ tr_nd ch pn k (zs k) = n)) ∧ gr_rel kn co bo gc gb ∧ (∀ j, j < 180 → ∃ a : Nat, a < 10000 ∧ sc j = nI a) ∧ (∀ s, s < 3 → ∃ a : Nat, a < 10000 ∧ sh s = nI a) ∧ (∀ s, s < 3 → ∃ a : Nat, a < 10000 ∧ sl s = nI a)
section STEP
variable {mn : Nat} {zs wd pn ph pa ch : Nat → Nat} {sz : Nat} {en : Nat → Bool} {kn : Nat → Bool} {co bo gc gb sc sh sl : Nat → Int32}
theorem come_spec (hd : dt_ok mn zs wd pn ph pa ch sz en kn co bo gc gb sc sh sl) {T t : Nat} (hT : T ≤ 17) (ht : t < 15) {x : wt_N} (hx : tri_all T mn zs x) {k p uv : Nat} (hk : k < mn) (hp : p < 3 * zs k) (huv : uv < 25) {a b c : Nat} (ha : a + 10000 ≤ 50000 * T) (hb : 3 * b + p + 1 ≤ T) (hc : c < 4 ^ b) :
    tri_all T mn zs (wt_come pn sc t k p uv (nI a) (nI b) (nI c) x) ∧ ∀ j z, j < 1800 → (z ≤ tI (EN (wt_come pn sc t k p uv (nI a) (nI b) (nI c) x) j) ↔ z ≤ tI (EN x j) ∧ (j = 225 * k + 25 * p + uv → z ≤ tI (wt_pc (lN (a * 65536 + b * 1024 + c)) (sc (12 * t + 3 * pn (3 * k + p / 3) + p % 3))))) := by
  obtain ⟨hm, -, htr, -, -, -, hsc, -, -⟩ := hd
  have hz := (htr.1 k hk).1
  have hpn := ((htr.1 k hk).2 (p / 3) (by omega)).1
  obtain ⟨s, hs, es⟩ := hsc (12 * t + 3 * pn (3 * k + p / 3) + p % 3) (by omega)
  have k1 := p4_le (show b ≤ 5 by omega)
  have e5 : (4 : Nat) ^ 5 = 1024 := rfl
  have e : wt_come pn sc t k p uv (nI a) (nI b) (nI c) x = wt_put x (225 * k + 25 * p + uv) (nI (a + s)) (nI b) (nI c) := by
    unfold wt_come
    rw [es, nI_add]
  have e2 : wt_pc (lN (a * 65536 + b * 1024 + c)) (sc (12 * t + 3 * pn (3 * k + p / 3) + p % 3)) = enc (nI (a + s)) (nI b) (nI c) := by
    rw [es, tk_pc (by omega) (by omega), enc_n (by omega) (by omega) (by omega)]
    exact congrArg lN (by omega)
  rw [e, e2]
  exact put_spec hT hx hk (by omega) hp (by omega) huv (wt_nI_nem1 (by omega)) (Or.inr ⟨a + s, b, c, rfl, rfl, rfl, by omega, hb, hc⟩)
/-- what a place gives to the next frame -/
def gives (wd zs pn : Nat → Nat) (mn : Nat) (kn : Nat → Bool) (co bo ho le so : Nat → Int32) (t : Nat) (E : Nat → Int64) (i j : Nat) (z : Int) : Prop :=
  (j = 225 * (i / 225) + 25 * (i / 25 % 9) + i % 25 → z ≤ tI (wt_pc (wt_pc (E i) (ho (i / 25 % 9 % 3))) (so (12 * t + 3 * pn (3 * (i / 225) + i / 25 % 9 / 3) + i / 25 % 9 % 3)))) ∧
  (i / 25 % 9 + 1 < 3 * zs (i / 225) → j = 225 * (i / 225) + 25 * (i / 25 % 9 + 1) + i % 25 → z ≤ tI (wt_pc (wt_pc (E i) (le (i / 25 % 9 % 3))) (so (12 * t + 3 * pn (3 * (i / 225) + (i / 25 % 9 + 1) / 3) + (i / 25 % 9 + 1) % 3)))) ∧
  (¬ i / 25 % 9 + 1 < 3 * zs (i / 225) → ∀ j', j' < mn → j = 225 * j' + 25 * 0 + (5 * (i % 5) + wd (i / 225)) → z ≤ tI (wt_pc (wt_pw (wt_pc (wt_pc (E i) (le 2)) (wt_afN kn co bo (i / 5 % 5) (i % 5) (wd (i / 225)))) (nI (wd (i / 225)))) (so (12 * t + 3 * pn (3 * j' + 0 / 3) + 0 % 3))))
theorem tri_EN {T : Nat} (hT : T ≤ 17) {x : wt_N} (hx : tri_all T mn zs x) {j : Nat} (hj : j < 1800) : tk_ok (EN x j) := tri_ok hT (hx j hj).2
theorem up_le3 {C : Nat → Nat → Int → Prop} {I : wt_N → Prop} {step : Nat → wt_N → wt_N} {n0 : Nat} :
    ∀ (r i : Nat) (f : wt_N), I f → (∀ k g, i ≤ k → k < i + r → I g → I (step k g)) → (∀ k g, i ≤ k → k < i + r → I g → ∀ j x, j < n0 → (x ≤ tI (EN (step k g) j) ↔ x ≤ tI (EN g j) ∧ C k j x)) →
      I (wt_up step r i f) ∧ ∀ j x, j < n0 → (x ≤ tI (EN (wt_up step r i f) j) ↔ x ≤ tI (EN f j) ∧ ∀ k, i ≤ k → k < i + r → C k j x)
  | 0, i, f, hI, _, _ => ⟨hI, fun j x _ => ⟨fun q => ⟨q, fun k h1 h2 => absurd h2 (by omega)⟩, fun q => q.1⟩⟩
  | r + 1, i, f, hI, hk, hs => by
    have ih := up_le3 (C := C) (I := I) (step := step) (n0 := n0) r (i + 1) (step i f) (hk i f (Nat.le_refl i) (by omega) hI) (fun k g h1 h2 => hk k g (by omega) (by omega)) (fun k g h1 h2 => hs k g (by omega) (by omega))
    refine ⟨ih.1, fun j x hj => ?_⟩
    show x ≤ tI (EN (wt_up step r (i + 1) (step i f)) j) ↔ _
    rw [ih.2 j x hj, hs i f (Nat.le_refl i) (by omega) hI j x hj]
    constructor
    · intro ⟨⟨q1, q2⟩, q3⟩
      refine ⟨q1, fun k h1 h2 => ?_⟩
      by_cases hki : k = i
      · subst hki; exact q2
      · exact q3 k (by omega) (by omega)
    · intro ⟨q1, q2⟩
      exact ⟨⟨q1, q2 i (Nat.le_refl i) (by omega)⟩, fun k h1 h2 => q2 k (by omega) (by omega)⟩
theorem go_spec (hd : dt_ok mn zs wd pn ph pa ch sz en kn co bo gc gb sc sh sl) {T t : Nat} (hT : T ≤ 15) (ht : t < 15) {x0 x : wt_N} (h0 : tri_all T mn zs x0) (hx : tri_all (T + 1) mn zs x) {i : Nat} (hi : i < 1800) (hal : 0 ≤ x0.1 i) :
    tri_all (T + 1) mn zs (wt_go pn wd zs mn kn co bo sh sl sc x0.1 x0.2.1 x0.2.2 t i x) ∧ ∀ j z, j < 1800 → (z ≤ tI (EN (wt_go pn wd zs mn kn co bo sh sl sc x0.1 x0.2.1 x0.2.2 t i x) j) ↔ z ≤ tI (EN x j) ∧ gives wd zs pn mn kn co bo sh sl sc t (EN x0) i j z) := by
  obtain ⟨hpl, htri⟩ := h0 i hi
  have hne : ¬ x0.1 i = -1 := fun q => by rw [q] at hal; exact absurd hal (by decide)
  obtain ⟨hk, hp⟩ := hpl.resolve_left hne
  obtain ⟨a, b, c, ea, eb, ec, ha, hb, hc⟩ := htri.resolve_left hne
  have hd' := hd
  obtain ⟨hm, hzw, htr, -, -, hgr, -, hsh, hsl⟩ := hd'
  have hz := (htr.1 _ hk).1
  have hz1 := (hzw _ hk).1
  have hw4 := (hzw _ hk).2
  have k1 := p4_le (show b ≤ 4 by omega)
  have e4 : (4 : Nat) ^ 4 = 256 := rfl
  have eE : EN x0 i = lN (a * 65536 + b * 1024 + c) := by
    show enc (x0.1 i) (x0.2.1 i) (x0.2.2 i) = _
    rw [ea, eb, ec, enc_n (by omega) (by omega) (by omega)]
  obtain ⟨h, hh, eh⟩ := hsh (i / 25 % 9 % 3) (by omega)
  obtain ⟨g, hg, eg⟩ := hsl (i / 25 % 9 % 3) (by omega)
  obtain ⟨g2, hg2, eg2⟩ := hsl 2 (by omega)
  -- holding
  have cH := come_spec hd (T := T + 1) (t := t) (by omega) ht hx hk hp (show i % 25 < 25 by omega) (a := a + h) (b := b) (c := c) (by omega) (by omega) hc
  have eH : wt_pc (lN ((a + h) * 65536 + b * 1024 + c)) (sc (12 * t + 3 * pn (3 * (i / 225) + i / 25 % 9 / 3) + i / 25 % 9 % 3)) = wt_pc (wt_pc (EN x0 i) (sh (i / 25 % 9 % 3))) (sc (12 * t + 3 * pn (3 * (i / 225) + i / 25 % 9 / 3) + i / 25 % 9 % 3)) := by
    rw [eE, eh, tk_pc (a := a * 65536 + b * 1024 + c) (by omega) (by omega), show a * 65536 + b * 1024 + c + h * 65536 = (a + h) * 65536 + b * 1024 + c by omega]
  rw [eH] at cH
  unfold wt_go gives
  rw [ea, eb, ec, eh, nI_add]
  rw [eh] at cH
  generalize hy : wt_come pn sc t (i / 225) (i / 25 % 9) (i % 25) (nI (a + h)) (nI b) (nI c) x = y at cH ⊢
  obtain ⟨cH1, cH2⟩ := cH
  unfold wt_goB
  by_cases hl : i / 25 % 9 + 1 < 3 * zs (i / 225)
  · rw [if_pos hl, ea, eb, ec, eg, nI_add]
    have cL := come_spec hd (T := T + 1) (t := t) (by omega) ht cH1 hk hl (show i % 25 < 25 by omega) (a := a + g) (b := b) (c := c) (by omega) (by omega) hc
    have eL : wt_pc (lN ((a + g) * 65536 + b * 1024 + c)) (sc (12 * t + 3 * pn (3 * (i / 225) + (i / 25 % 9 + 1) / 3) + (i / 25 % 9 + 1) % 3)) = wt_pc (wt_pc (EN x0 i) (nI g)) (sc (12 * t + 3 * pn (3 * (i / 225) + (i / 25 % 9 + 1) / 3) + (i / 25 % 9 + 1) % 3)) := by
      rw [eE, tk_pc (a := a * 65536 + b * 1024 + c) (by omega) (by omega), show a * 65536 + b * 1024 + c + g * 65536 = (a + g) * 65536 + b * 1024 + c by omega]
    rw [eL] at cL
    refine ⟨cL.1, fun j z hj => ?_⟩
    rw [cL.2 j z hj, cH2 j z hj]
    constructor
    · intro ⟨⟨q1, q2⟩, q3⟩; exact ⟨q1, q2, fun _ => q3, fun q => absurd hl q⟩
    · intro ⟨q1, q2, q3, _⟩; exact ⟨⟨q1, q2⟩, q3 hl⟩
  · rw [if_neg hl]
    obtain ⟨-, hA⟩ := gr_aft hgr (u := i / 5 % 5) (v := i % 5) (w := wd (i / 225)) (by omega) (by omega) (by omega)
    rcases hA with hA | ⟨A, hA, eA⟩
    · rw [hA, if_pos (by decide)]
      refine ⟨cH1, fun j z hj => ?_⟩
      rw [cH2 j z hj]
      have hle := tk_le (tri_EN (T := T + 1) (by omega) hx hj)
      constructor
      · intro ⟨q1, q2⟩
        refine ⟨q1, q2, fun q => absurd q hl, fun _ j' _ _ => ?_⟩
        rw [tk_pc_m1, tk_pw_dead, tk_pc_dead, tI_dead]
        omega
      · intro ⟨q1, q2, _, _⟩; exact ⟨q1, q2⟩
    · rw [eA, if_neg (nI_pos (by omega)), ea, eb, ec, eg2]
      have e1 : nI a + nI g2 + nI A = nI (a + g2 + A) := by rw [nI_add, nI_add]
      have e2 : nI 4 * nI c + nI (wd (i / 225)) = nI (4 * c + wd (i / 225)) := by rw [pk_mul, nI_add]
      have e3 : nI b + nI 1 = nI (b + 1) := by rw [nI_add]
      rw [e1, e2, e3]
      have p4 : 4 ^ (b + 1) = 4 ^ b * 4 := rfl
      have eW : ∀ j', wt_pc (lN ((a + g2 + A) * 65536 + (b + 1) * 1024 + (4 * c + wd (i / 225)))) (sc (12 * t + 3 * pn (3 * j' + 0 / 3) + 0 % 3)) = wt_pc (wt_pw (wt_pc (wt_pc (EN x0 i) (nI g2)) (nI A)) (nI (wd (i / 225)))) (sc (12 * t + 3 * pn (3 * j' + 0 / 3) + 0 % 3)) := by
        intro j'
        rw [eE, tk_pc (by omega) (by omega), tk_pc (by omega) (by omega)]
        rw [show a * 65536 + b * 1024 + c + g2 * 65536 + A * 65536 = (a + g2 + A) * 65536 + b * 1024 + c by omega, tk_pw (by omega) (by omega) (by omega) hw4, Nat.mul_comm 4 c]
      have loop := up_le3 (I := tri_all (T + 1) mn zs) (C := fun j' j z => j = 225 * j' + 25 * 0 + (5 * (i % 5) + wd (i / 225)) → z ≤ tI (wt_pc (wt_pw (wt_pc (wt_pc (EN x0 i) (nI g2)) (nI A)) (nI (wd (i / 225)))) (sc (12 * t + 3 * pn (3 * j' + 0 / 3) + 0 % 3)))) (n0 := 1800) (step := fun j x => wt_come pn sc t j 0 (5 * (i % 5) + wd (i / 225)) (nI (a + g2 + A)) (nI (b + 1)) (nI (4 * c + wd (i / 225))) x) mn 0 y cH1
        (fun j' g _ hj' hg => (come_spec hd (T := T + 1) (t := t) (by omega) ht hg (show j' < mn by omega) (by have := (hzw j' (by omega)).1; omega) (by omega) (by omega) (by omega) (by omega)).1)
        (fun j' g _ hj' hg j z hj => by
          have q := (come_spec hd (T := T + 1) (t := t) (by omega) ht hg (show j' < mn by omega) (p := 0) (by have := (hzw j' (by omega)).1; omega) (show 5 * (i % 5) + wd (i / 225) < 25 by omega) (a := a + g2 + A) (b := b + 1) (c := 4 * c + wd (i / 225)) (by omega) (by omega) (by omega)).2 j z hj
          rw [eW j'] at q
          exact q)
      refine ⟨loop.1, fun j z hj => ?_⟩
      rw [loop.2 j z hj, cH2 j z hj]
      constructor
      · intro ⟨⟨q1, q2⟩, q3⟩; exact ⟨q1, q2, fun q => absurd q hl, fun _ j' hj' => q3 j' (by omega) (by omega)⟩
      · intro ⟨q1, q2, _, q3⟩; exact ⟨⟨q1, q2⟩, fun j' _ hj' => q3 hl j' (by omega)⟩
end STEP
end
section
/-! a frame in both: place by place the same -/
theorem tri_b {T p : Nat} (hT : T ≤ 17) {x d w : Int32} (h : tri T p x d w) : tk_b (2 ^ 40) (enc x d w) := by
  rcases h with rfl | ⟨a, b, c, rfl, rfl, rfl, ha, hb, hc⟩
  · rw [enc_m1]; exact Or.inl rfl
  · have := p4_le (show b ≤ 5 by omega)
    have e5 : (4 : Nat) ^ 5 = 1024 := rfl
    rw [enc_n (by omega) (by omega) (by omega)]
    exact Or.inr ⟨_, by omega, rfl⟩
section MAIN
variable {mn : Nat} {zs wd pn ph pa ch : Nat → Nat} {sz : Nat} {en : Nat → Bool} {kn : Nat → Bool} {co bo gc gb sc sh sl : Nat → Int32}
theorem gives_dead {t : Nat} {E : Nat → Int64} {i j : Nat} {z : Int} (hE : E i = wt_dead) (hz : z ≤ 4611686018427387904) : gives wd zs pn mn kn co bo sh sl sc t E i j z := by
  unfold gives
  rw [hE]
  refine ⟨fun _ => ?_, fun _ _ => ?_, fun _ _ _ _ => ?_⟩
  · rw [tk_pc_dead, tk_pc_dead, tI_dead]; exact hz
  · rw [tk_pc_dead, tk_pc_dead, tI_dead]; exact hz
  · rw [tk_pc_dead, tk_pc_dead, tk_pw_dead, tk_pc_dead, tI_dead]; exact hz
theorem st_spec (hd : dt_ok mn zs wd pn ph pa ch sz en kn co bo gc gb sc sh sl) {T t : Nat} (hT : T ≤ 15) (ht : t < 15) {x0 : wt_N} (h0 : tri_all T mn zs x0) :
    tri_all (T + 1) mn zs (wt_st pn wd zs mn kn co bo sh sl sc t x0) ∧ ∀ j z, j < 1800 → (z ≤ tI (EN (wt_st pn wd zs mn kn co bo sh sl sc t x0) j) ↔ z ≤ 4611686018427387904 ∧ ∀ i, i < 1800 → gives wd zs pn mn kn co bo sh sl sc t (EN x0) i j z) := by
  have dead : ∀ i, i < 1800 → ¬ 0 ≤ x0.1 i → EN x0 i = wt_dead := by
    intro i hi hn
    rcases (h0 i hi).2 with e | ⟨a, b, c, e, -, -, ha, -, -⟩
    · show enc (x0.1 i) _ _ = _
      rw [e, enc_m1]
    · rw [e] at hn
      exact absurd (nI_pos' (by omega)) hn
  have loop := up_le3 (I := tri_all (T + 1) mn zs) (C := fun i j z => gives wd zs pn mn kn co bo sh sl sc t (EN x0) i j z) (n0 := 1800) (step := fun i y => if 0 ≤ x0.1 i then wt_go pn wd zs mn kn co bo sh sl sc x0.1 x0.2.1 x0.2.2 t i y else y) 1800 0 ((fun _ => -1), x0.2.1, x0.2.2) (fun j _ => ⟨Or.inl rfl, Or.inl rfl⟩)
    (fun i g _ hi hg => by
      show tri_all (T + 1) mn zs (if 0 ≤ x0.1 i then _ else g)
      by_cases h : 0 ≤ x0.1 i
      · rw [if_pos h]; exact (go_spec hd hT ht h0 hg (by omega) h).1
      · rw [if_neg h]; exact hg)
    (fun i g _ hi hg j z hj => by
      show z ≤ tI (EN (if 0 ≤ x0.1 i then _ else g) j) ↔ _
      by_cases h : 0 ≤ x0.1 i
      · rw [if_pos h]; exact (go_spec hd hT ht h0 hg (by omega) h).2 j z hj
      · rw [if_neg h]
        have hle := tk_le (tri_EN (T := T + 1) (by omega) hg hj)
        exact ⟨fun q => ⟨q, gives_dead (dead i (by omega) h) (by omega)⟩, fun q => q.1⟩)
  refine ⟨loop.1, fun j z hj => ?_⟩
  have e : z ≤ tI (EN (wt_st pn wd zs mn kn co bo sh sl sc t x0) j) ↔ _ := loop.2 j z hj
  rw [e]
  have e2 : tI (EN ((fun _ => -1), x0.2.1, x0.2.2) j) = 4611686018427387904 := by
    show tI (enc (-1) _ _) = _
    rw [enc_m1, tI_dead]
  rw [e2]
  constructor
  · intro ⟨q1, q2⟩; exact ⟨q1, fun i hi => q2 i (by omega) (by omega)⟩
  · intro ⟨q1, q2⟩; exact ⟨q1, fun i _ hi => q2 i (by omega)⟩
/-- the class's tokens are the reference's -/
def same (mn : Nat) (zs pn ch : Nat → Nat) (tok : Nat → Int64) (x : wt_N) : Prop := ∀ k p uv, k < mn → p < 3 * zs k → uv < 25 → tok (wt_pl uv (tr_nd ch pn k (p / 3 + 1)) (p % 3)) = EN x (225 * k + 25 * p + uv)
/-- what waits is what has ended a word -/
def waits (en : Nat → Bool) (sz : Nat) (gc gb sl : Nat → Int32) (tok wt : Nat → Int64) : Prop := (∀ j, j < 25 → tk_b (2 ^ 42) (wt j)) ∧ ∀ j (x : Int), j < 25 → (x ≤ tI (wt j) ↔ x ≤ 4611686018427387904 ∧ ∀ c n w, c < 25 → 1 ≤ n → n ≤ sz → w < 4 → en (n * 4 + w) = true → j = wt_cx (c % 5) w → x ≤ tI (wa_z gc gb sl tok c n w))
/-- a word's end: the token with the word -/
theorem ends_b (hd : dt_ok mn zs wd pn ph pa ch sz en kn co bo gc gb sc sh sl) {T : Nat} (hT : T ≤ 15) {x0 : wt_N} (h0 : tri_all T mn zs x0) {i : Nat} (hi : i < 1800) (hk : i / 225 < mn) (hp : i / 25 % 9 < 3 * zs (i / 225)) (he : i / 25 % 9 = 3 * zs (i / 225) - 1) : tk_b (2 ^ 42) (wt_pw (wt_pc (wt_pc (EN x0 i) (sl 2)) (wt_afN kn co bo (i / 5 % 5) (i % 5) (wd (i / 225)))) (nI (wd (i / 225)))) := by
  obtain ⟨hm, hzw, htr, -, -, hgr, -, -, hsl⟩ := hd
  have hw4 := (hzw _ hk).2
  have hz1 := (hzw _ hk).1
  obtain ⟨g, hg, eg⟩ := hsl 2 (by omega)
  obtain ⟨-, hA⟩ := gr_aft hgr (u := i / 5 % 5) (v := i % 5) (w := wd (i / 225)) (by omega) (by omega) (by omega)
  rcases hA with hA | ⟨A, hA, eA⟩
  · rw [hA, tk_pc_m1, tk_pw_dead]; exact Or.inl rfl
  · rw [eA, eg]
    show tk_b (2 ^ 42) (wt_pw (wt_pc (wt_pc (enc (x0.1 i) (x0.2.1 i) (x0.2.2 i)) (nI g)) (nI A)) (nI (wd (i / 225))))
    rcases (h0 i hi).2 with e | ⟨a, b, c, ea, eb, ec, ha, hb, hc⟩
    · rw [e, enc_m1, tk_pc_dead, tk_pc_dead, tk_pw_dead]; exact Or.inl rfl
    · have k1 := p4_le (show b ≤ 4 by omega)
      have e4 : (4 : Nat) ^ 4 = 256 := rfl
      rw [ea, eb, ec, enc_n (by omega) (by omega) (by omega), tk_pc (by omega) (by omega), tk_pc (by omega) (by omega)]
      rw [show a * 65536 + b * 1024 + c + g * 65536 + A * 65536 = (a + g + A) * 65536 + b * 1024 + c by omega, tk_pw (by omega) (by omega) (by omega) hw4]
      exact Or.inr ⟨_, by omega, rfl⟩
theorem ends_ok (hd : dt_ok mn zs wd pn ph pa ch sz en kn co bo gc gb sc sh sl) {T : Nat} (hT : T ≤ 15) {x0 : wt_N} (h0 : tri_all T mn zs x0) {i : Nat} (hi : i < 1800) (hk : i / 225 < mn) (hp : i / 25 % 9 < 3 * zs (i / 225)) (he : i / 25 % 9 = 3 * zs (i / 225) - 1) : tk_ok (wt_pw (wt_pc (wt_pc (EN x0 i) (sl 2)) (wt_afN kn co bo (i / 5 % 5) (i % 5) (wd (i / 225)))) (nI (wd (i / 225)))) := tk_b_ok (ends_b hd hT h0 hi hk hp he) (by decide)
theorem main_step (hd : dt_ok mn zs wd pn ph pa ch sz en kn co bo gc gb sc sh sl) {T t : Nat} (hT : T ≤ 15) (ht : t < 15) {x0 : wt_N} (h0 : tri_all T mn zs x0) {tok wt : Nat → Int64} (hs : same mn zs pn ch tok x0) (hw : waits en sz gc gb sl tok wt) :
    same mn zs pn ch (wt_ha ph pa sz sc sh sl wt t tok) (wt_st pn wd zs mn kn co bo sh sl sc t x0) := by
  intro K P UV hK hP hUV
  have hd' := hd
  obtain ⟨hm, hzw, htr, hsz, hen, hgr, hsc, hsh, hsl⟩ := hd'
  have hz := (htr.1 K hK).1
  obtain ⟨hpn, hn1, hn2, hph, hpa⟩ := (htr.1 K hK).2 (P / 3) (by omega)
  have hjl : 225 * K + 25 * P + UV < 1800 := by omega
  have i1 : (225 * K + 25 * P + UV) / 225 = K := by omega
  have i2 : (225 * K + 25 * P + UV) / 25 % 9 = P := by omega
  have i3 : (225 * K + 25 * P + UV) % 25 = UV := by omega
  obtain ⟨-, hst⟩ := st_spec hd hT ht h0
  have hall := (hr_all (ph := ph) (pa := pa) (sc := sc) (sh := sh) (sl := sl) (wt := wt) (t := t) (sz := sz) (by omega) (fun n h1 h2 => (htr.2.1 n h1 h2).1) 25 0 tok).1 UV (tr_nd ch pn K (P / 3 + 1)) (P % 3) (by omega) (by omega) hn1 hn2 (by omega)
  obtain ⟨S, hS, eS⟩ := hsc (12 * t + 3 * pn (3 * K + P / 3) + P % 3) (by omega)
  obtain ⟨h, hh, eh⟩ := hsh (P % 3) (by omega)
  have eix : t * 12 + ph (tr_nd ch pn K (P / 3 + 1)) * 3 + P % 3 = 12 * t + 3 * pn (3 * K + P / 3) + P % 3 := by rw [hph]; omega
  -- the tokens that come
  have hcmb : tk_b (2 ^ 42) (wt_cm pa sl tok wt UV (tr_nd ch pn K (P / 3 + 1)) (P % 3)) := by
    unfold wt_cm wt_lv
    by_cases hs0 : 0 < P % 3
    · rw [if_pos hs0]
      obtain ⟨g, hg, eg⟩ := hsl (P % 3 - 1) (by omega)
      have e := hs K (P - 1) UV hK (by omega) hUV
      rw [show (P - 1) / 3 = P / 3 by omega, show (P - 1) % 3 = P % 3 - 1 by omega] at e
      rw [e, eg]
      exact tk_b_up (tk_b_pc (tri_b (T := T) (by omega) (h0 _ (by omega)).2) (by decide) (by omega)) (by decide)
    · rw [if_neg hs0]
      by_cases hp0 : pa (tr_nd ch pn K (P / 3 + 1)) = 0
      · rw [if_pos hp0]; exact hw.1 UV hUV
      · rw [if_neg hp0, hpa]
        obtain ⟨g, hg, eg⟩ := hsl 2 (by omega)
        have hP3 : 3 ≤ P := by
          rw [hpa] at hp0
          by_cases hP0 : P / 3 = 0
          · rw [hP0] at hp0; exact absurd rfl hp0
          · omega
        have e := hs K (P - 1) UV hK (by omega) hUV
        rw [show (P - 1) / 3 + 1 = P / 3 by omega, show (P - 1) % 3 = 2 by omega] at e
        rw [e, eg]
        exact tk_b_up (tk_b_pc (tri_b (T := T) (by omega) (h0 _ (by omega)).2) (by decide) (by omega)) (by decide)
  have hEb : tk_b (2 ^ 40) (EN x0 (225 * K + 25 * P + UV)) := tri_b (T := T) (by omega) (h0 _ hjl).2
  show wt_up (fun c tok => wt_hear ph pa sz sc sh sl wt t c tok) 25 0 tok _ = _
  rw [hall]
  unfold hr_F
  rw [eix, eS, hs K P UV hK hP hUV]
  apply tI_ext
  intro x
  have hE2 : tk_b (2 ^ 42) (wt_pc (EN x0 (225 * K + 25 * P + UV)) (sh (P % 3))) := by rw [eh]; exact tk_b_up (tk_b_pc hEb (by decide) (by omega)) (by decide)
  rw [tk_gal (tk_b_ok (tk_b_lm hE2 hcmb) (by decide)) (by omega), tI_lm, hst _ x hjl]
  -- what is left: the two sides, part by part
  constructor
  · intro ⟨q0, q1, q2⟩
    refine ⟨q0, fun i hi => ⟨fun hj => ?_, fun hl hj => ?_, fun hl j' hj' hj => ?_⟩⟩
    · have ei : i = 225 * K + 25 * P + UV := by omega
      subst ei
      rw [i1, i2, eS, tk_gal (tk_b_ok hE2 (by decide)) (by omega)]
      exact ⟨q0, q1⟩
    · rcases (h0 i hi).1 with hdead | ⟨hk, hp⟩
      · have e : EN x0 i = wt_dead := by show enc (x0.1 i) _ _ = _; rw [hdead, enc_m1]
        rw [e, tk_pc_dead, tk_pc_dead, tI_dead]
        exact q0
      · have hz3 := (htr.1 _ hk).1
        have e1 : i / 225 = K := by omega
        have e2 : i / 25 % 9 + 1 = P := by omega
        have ei : i = 225 * K + 25 * (P - 1) + UV := by omega
        have e3 : i / 25 % 9 = P - 1 := by omega
        rw [e1, e2, e3, eS]
        obtain ⟨g, hg, eg⟩ := hsl ((P - 1) % 3) (by omega)
        have hb : tk_b (2 ^ 42) (wt_pc (EN x0 i) (sl ((P - 1) % 3))) := by rw [eg]; exact tk_b_up (tk_b_pc (tri_b (T := T) (by omega) (h0 i hi).2) (by decide) (by omega)) (by decide)
        rw [tk_gal (tk_b_ok hb (by decide)) (by omega)]
        refine ⟨q0, ?_⟩
        have ecm : wt_cm pa sl tok wt UV (tr_nd ch pn K (P / 3 + 1)) (P % 3) = wt_pc (EN x0 i) (sl ((P - 1) % 3)) := by
          unfold wt_cm wt_lv
          have e := hs K (P - 1) UV hK (by omega) hUV
          rw [← ei] at e
          by_cases hs0 : 0 < P % 3
          · rw [if_pos hs0, ← e, show (P - 1) / 3 = P / 3 by omega, show (P - 1) % 3 = P % 3 - 1 by omega]
          · have hp0 : ¬ pa (tr_nd ch pn K (P / 3 + 1)) = 0 := by
              rw [hpa]
              have := ((htr.1 K hK).2 (P / 3 - 1) (by omega)).2.1
              rw [show P / 3 - 1 + 1 = P / 3 by omega] at this
              omega
            rw [if_neg hs0, if_neg hp0, hpa, ← e, show (P - 1) / 3 + 1 = P / 3 by omega, show (P - 1) % 3 = 2 by omega]
        rw [← ecm]
        exact q2
    · rcases (h0 i hi).1 with hdead | ⟨hk, hp⟩
      · have e : EN x0 i = wt_dead := by show enc (x0.1 i) _ _ = _; rw [hdead, enc_m1]
        rw [e, tk_pc_dead, tk_pc_dead, tk_pw_dead, tk_pc_dead, tI_dead]
        exact q0
      · have hw4 := (hzw _ hk).2
        have hz1 := (hzw _ hk).1
        have hz3 := (htr.1 _ hk).1
        have e1 : j' = K := by omega
        have e2 : P = 0 := by omega
        have e3 : UV = 5 * (i % 5) + wd (i / 225) := by omega
        have e4 : i / 25 % 9 = 3 * zs (i / 225) - 1 := by omega
        subst e2
        rw [e1]
        have eS0 : sc (12 * t + 3 * pn (3 * K + 0 / 3) + 0 % 3) = nI S := eS
        rw [eS0]
        obtain ⟨g1, g2, -, -⟩ := ((htr.1 _ hk).2 (zs (i / 225) - 1) (by omega)).2
        rw [show zs (i / 225) - 1 + 1 = zs (i / 225) by omega] at g1 g2
        have eT := hs (i / 225) (i / 25 % 9) (i % 25) hk hp (by omega)
        rw [show 225 * (i / 225) + 25 * (i / 25 % 9) + i % 25 = i by omega, e4, show (3 * zs (i / 225) - 1) / 3 + 1 = zs (i / 225) by omega, show (3 * zs (i / 225) - 1) % 3 = 2 by omega] at eT
        have ecm : wt_cm pa sl tok wt UV (tr_nd ch pn K (0 / 3 + 1)) (0 % 3) = wt UV := by
          unfold wt_cm
          rw [if_neg (by decide), if_pos (by rw [hpa]; rfl)]
        have q3 : x - (S : Int) * 65536 ≤ tI (wt UV) := by rw [← ecm]; exact q2
        have q4 := ((hw.2 UV _ hUV).mp q3).2 (i % 25) (tr_nd ch pn (i / 225) (zs (i / 225))) (wd (i / 225)) (by omega) g1 g2 hw4 ((hen _ _ g1 g2 hw4).mpr ⟨i / 225, hk, rfl, rfl⟩) (by unfold wt_cx; omega)
        have ez : wa_z gc gb sl tok (i % 25) (tr_nd ch pn (i / 225) (zs (i / 225))) (wd (i / 225)) = wt_pw (wt_pc (wt_pc (EN x0 i) (sl 2)) (wt_afN kn co bo (i / 5 % 5) (i % 5) (wd (i / 225)))) (nI (wd (i / 225))) := by
          unfold wa_z wt_lv
          rw [eT, show i % 25 / 5 = i / 5 % 5 by omega, show i % 25 % 5 = i % 5 by omega, (gr_aft hgr (u := i / 5 % 5) (v := i % 5) (w := wd (i / 225)) (by omega) (by omega) (by omega)).1]
        rw [ez] at q4
        rw [tk_gal (ends_ok hd (by omega) h0 hi hk hp e4) (by omega)]
        exact ⟨q0, q4⟩
  · intro ⟨q0, q⟩
    refine ⟨q0, ?_, ?_⟩
    · have := (q (225 * K + 25 * P + UV) hjl).1 (by omega)
      rw [i1, i2, eS, tk_gal (tk_b_ok hE2 (by decide)) (by omega)] at this
      exact this.2
    · by_cases hP0 : P = 0
      · subst hP0
        have ecm : wt_cm pa sl tok wt UV (tr_nd ch pn K (0 / 3 + 1)) (0 % 3) = wt UV := by
          unfold wt_cm
          rw [if_neg (by decide), if_pos (by rw [hpa]; rfl)]
        rw [ecm, hw.2 UV _ hUV]
        refine ⟨by omega, fun c n w hc h1 h2 hw4 hen' hj => ?_⟩
        obtain ⟨k, hk, rfl, rfl⟩ := (hen n w h1 h2 hw4).mp hen'
        have hz1 := (hzw k hk).1
        have hz3 := (htr.1 k hk).1
        have j1 : (225 * k + 25 * (3 * zs k - 1) + c) / 225 = k := by omega
        have j2 : (225 * k + 25 * (3 * zs k - 1) + c) / 25 % 9 = 3 * zs k - 1 := by omega
        have j3 : (225 * k + 25 * (3 * zs k - 1) + c) % 5 = c % 5 := by omega
        have j4 : (225 * k + 25 * (3 * zs k - 1) + c) / 5 % 5 = c / 5 := by omega
        have jl : 225 * k + 25 * (3 * zs k - 1) + c < 1800 := by omega
        have g := (q (225 * k + 25 * (3 * zs k - 1) + c) jl).2.2
        have ok := ends_ok hd (T := T) (by omega) h0 jl (by rw [j1]; exact hk) (by rw [j1, j2]; omega) (by rw [j1, j2])
        rw [j1, j2, j3, j4] at g
        rw [j1, j3, j4] at ok
        unfold wt_cx at hj
        have g2 := g (by omega) K hK (by omega)
        have eS0 : sc (12 * t + 3 * pn (3 * K + 0 / 3) + 0 % 3) = nI S := eS
        rw [eS0, tk_gal ok (by omega)] at g2
        have eT := hs k (3 * zs k - 1) c hk (by omega) hc
        rw [show (3 * zs k - 1) / 3 + 1 = zs k by omega, show (3 * zs k - 1) % 3 = 2 by omega] at eT
        have ez : wa_z gc gb sl tok c (tr_nd ch pn k (zs k)) (wd k) = wt_pw (wt_pc (wt_pc (EN x0 (225 * k + 25 * (3 * zs k - 1) + c)) (sl 2)) (wt_afN kn co bo (c / 5) (c % 5) (wd k))) (nI (wd k)) := by
          unfold wa_z wt_lv
          rw [eT, (gr_aft hgr (u := c / 5) (v := c % 5) (w := wd k) (by omega) (by omega) (by omega)).1]
        rw [ez]
        exact g2.2
      · have j1 : (225 * K + 25 * (P - 1) + UV) / 225 = K := by omega
        have j2 : (225 * K + 25 * (P - 1) + UV) / 25 % 9 = P - 1 := by omega
        have j3 : (225 * K + 25 * (P - 1) + UV) % 25 = UV := by omega
        have jl : 225 * K + 25 * (P - 1) + UV < 1800 := by omega
        have g := (q (225 * K + 25 * (P - 1) + UV) jl).2.1
        rw [j1, j2, j3, show P - 1 + 1 = P by omega] at g
        have g2 := g hP rfl
        obtain ⟨gl, hgl, egl⟩ := hsl ((P - 1) % 3) (by omega)
        have hb : tk_b (2 ^ 42) (wt_pc (EN x0 (225 * K + 25 * (P - 1) + UV)) (sl ((P - 1) % 3))) := by rw [egl]; exact tk_b_up (tk_b_pc (tri_b (T := T) (by omega) (h0 _ jl).2) (by decide) (by omega)) (by decide)
        rw [eS, tk_gal (tk_b_ok hb (by decide)) (by omega)] at g2
        have ecm : wt_cm pa sl tok wt UV (tr_nd ch pn K (P / 3 + 1)) (P % 3) = wt_pc (EN x0 (225 * K + 25 * (P - 1) + UV)) (sl ((P - 1) % 3)) := by
          unfold wt_cm wt_lv
          have e := hs K (P - 1) UV hK (by omega) hUV
          by_cases hs0 : 0 < P % 3
          · rw [if_pos hs0, ← e, show (P - 1) / 3 = P / 3 by omega, show (P - 1) % 3 = P % 3 - 1 by omega]
          · have hp0 : ¬ pa (tr_nd ch pn K (P / 3 + 1)) = 0 := by
              rw [hpa]
              have := ((htr.1 K hK).2 (P / 3 - 1) (by omega)).2.1
              rw [show P / 3 - 1 + 1 = P / 3 by omega] at this
              omega
            rw [if_neg hs0, if_neg hp0, hpa, ← e, show (P - 1) / 3 + 1 = P / 3 by omega, show (P - 1) % 3 = 2 by omega]
        rw [ecm]
        exact g2.2
end MAIN
end
section
/-! n frames in both -/
theorem up_snoc {σ : Type} (f : Nat → σ → σ) : ∀ (r i : Nat) (x : σ), wt_up f (r + 1) i x = f (i + r) (wt_up f r i x)
  | 0, _, _ => rfl
  | r + 1, i, x => by
    show wt_up f (r + 1) (i + 1) (f i x) = f (i + (r + 1)) (wt_up f r (i + 1) (f i x))
    rw [up_snoc f r (i + 1) (f i x), show i + 1 + r = i + (r + 1) by omega]
def cs (ph pa : Nat → Nat) (en : Nat → Bool) (sz : Nat) (gc gb sc sh sl : Nat → Int32) : Nat → (Nat → Int64) × (Nat → Int64)
  | 0 => ((fun _ => wt_dead), vp_updL (fun _ => wt_dead) (wt_cx 4 4) 0)
  | n + 1 => (wt_ha ph pa sz sc sh sl (cs ph pa en sz gc gb sc sh sl n).2 n (cs ph pa en sz gc gb sc sh sl n).1, wt_ea en sz gc gb sl (wt_ha ph pa sz sc sh sl (cs ph pa en sz gc gb sc sh sl n).2 n (cs ph pa en sz gc gb sc sh sl n).1))
theorem run_cs (ph pa : Nat → Nat) (en : Nat → Bool) (sz : Nat) (gc gb sc sh sl : Nat → Int32) (pn : Nat → Nat) (lt : Nat → Int64) : ∀ ct : Nat,
    (wt_run ph pa en sz gc gb sc sh sl ct pn lt).1 = (cs ph pa en sz gc gb sc sh sl ct).1 ∧ (wt_run ph pa en sz gc gb sc sh sl ct pn lt).2.1 = (cs ph pa en sz gc gb sc sh sl ct).2 ∧
    ∀ n, 1 ≤ n → n ≤ ct → (wt_run ph pa en sz gc gb sc sh sl ct pn lt).2.2.1 n = (wt_ms (cs ph pa en sz gc gb sc sh sl n).1).1 ∧ (wt_run ph pa en sz gc gb sc sh sl ct pn lt).2.2.2 n = (wt_ms (cs ph pa en sz gc gb sc sh sl n).1).2 := by
  intro ct
  induction ct with
  | zero => exact ⟨rfl, rfl, fun n h1 h2 => absurd h2 (by omega)⟩
  | succ ct ih =>
    obtain ⟨i1, i2, i3⟩ := ih
    have e : wt_run ph pa en sz gc gb sc sh sl (ct + 1) pn lt = wt_fr ph pa en sz gc gb sc sh sl (0 + ct) (wt_run ph pa en sz gc gb sc sh sl ct pn lt) := up_snoc _ ct 0 _
    rw [Nat.zero_add] at e
    rw [e]
    have e1 : wt_ha ph pa sz sc sh sl (wt_run ph pa en sz gc gb sc sh sl ct pn lt).2.1 ct (wt_run ph pa en sz gc gb sc sh sl ct pn lt).1 = (cs ph pa en sz gc gb sc sh sl (ct + 1)).1 := by rw [i1, i2]; rfl
    refine ⟨e1, ?_, fun n h1 h2 => ?_⟩
    · show wt_ea en sz gc gb sl (wt_ha ph pa sz sc sh sl (wt_run ph pa en sz gc gb sc sh sl ct pn lt).2.1 ct (wt_run ph pa en sz gc gb sc sh sl ct pn lt).1) = _
      rw [e1]; rfl
    · show va_up (wt_run ph pa en sz gc gb sc sh sl ct pn lt).2.2.1 (ct + 1) (wt_ms (wt_ha ph pa sz sc sh sl (wt_run ph pa en sz gc gb sc sh sl ct pn lt).2.1 ct (wt_run ph pa en sz gc gb sc sh sl ct pn lt).1)).1 n = _ ∧ vp_updL (wt_run ph pa en sz gc gb sc sh sl ct pn lt).2.2.2 (ct + 1) (wt_ms (wt_ha ph pa sz sc sh sl (wt_run ph pa en sz gc gb sc sh sl ct pn lt).2.1 ct (wt_run ph pa en sz gc gb sc sh sl ct pn lt).1)).2 n = _
      rw [e1]
      by_cases hn : n = ct + 1
      · subst hn
        rw [va_up_self, pk_uLs]
        exact ⟨rfl, rfl⟩
      · rw [va_up_ne _ _ hn, pk_uLn hn]
        exact i3 n h1 (by omega)
def mx (pn wd zs : Nat → Nat) (mn : Nat) (kn : Nat → Bool) (co bo ho le so nd nc : Nat → Int32) : Nat → wt_N
  | 0 => ((fun _ => -1), nd, nc)
  | n + 1 => if n = 0 then wt_up (fun k x => wt_come pn so 0 k 0 24 (nI 0) (nI 0) (nI 0) x) mn 0 ((fun _ => -1), nd, nc) else wt_st pn wd zs mn kn co bo ho le so n (mx pn wd zs mn kn co bo ho le so nd nc n)
section FRAMES
variable {mn : Nat} {zs wd pn ph pa ch : Nat → Nat} {sz : Nat} {en : Nat → Bool} {kn : Nat → Bool} {co bo gc gb sc sh sl : Nat → Int32}
/-- the first frame, in the reference -/
theorem first_spec (hd : dt_ok mn zs wd pn ph pa ch sz en kn co bo gc gb sc sh sl) (nd nc : Nat → Int32) :
    tri_all 1 mn zs (mx pn wd zs mn kn co bo sh sl sc nd nc 1) ∧ ∀ j z, j < 1800 → (z ≤ tI (EN (mx pn wd zs mn kn co bo sh sl sc nd nc 1) j) ↔ z ≤ 4611686018427387904 ∧ ∀ k, k < mn → j = 225 * k + 25 * 0 + 24 → z ≤ tI (wt_pc (lN (0 * 65536 + 0 * 1024 + 0)) (sc (12 * 0 + 3 * pn (3 * k + 0 / 3) + 0 % 3)))) := by
  have hd' := hd
  obtain ⟨hm, hzw, htr, -, -, -, -, -, -⟩ := hd'
  have hz : ∀ k, k < mn → 0 < 3 * zs k := fun k hk => by have := (hzw k hk).1; omega
  have loop := up_le3 (I := tri_all 1 mn zs) (C := fun k j z => j = 225 * k + 25 * 0 + 24 → z ≤ tI (wt_pc (lN (0 * 65536 + 0 * 1024 + 0)) (sc (12 * 0 + 3 * pn (3 * k + 0 / 3) + 0 % 3)))) (n0 := 1800) (step := fun k x => wt_come pn sc 0 k 0 24 (nI 0) (nI 0) (nI 0) x) mn 0 ((fun _ => -1), nd, nc) (fun j _ => ⟨Or.inl rfl, Or.inl rfl⟩)
    (fun k g _ hk hg => (come_spec hd (T := 1) (t := 0) (by omega) (by omega) hg (show k < mn by omega) (p := 0) (hz k (by omega)) (uv := 24) (by omega) (a := 0) (b := 0) (c := 0) (by omega) (by omega) (by decide)).1)
    (fun k g _ hk hg j z hj => (come_spec hd (T := 1) (t := 0) (by omega) (by omega) hg (show k < mn by omega) (p := 0) (hz k (by omega)) (uv := 24) (by omega) (a := 0) (b := 0) (c := 0) (by omega) (by omega) (by decide)).2 j z hj)
  refine ⟨loop.1, fun j z hj => ?_⟩
  have e : z ≤ tI (EN (mx pn wd zs mn kn co bo sh sl sc nd nc 1) j) ↔ _ := loop.2 j z hj
  have e2 : tI (EN ((fun _ => -1), nd, nc) j) = 4611686018427387904 := by
    show tI (enc (-1) _ _) = _
    rw [enc_m1, tI_dead]
  rw [e, e2]
  constructor
  · intro ⟨q1, q2⟩; exact ⟨q1, fun k hk => q2 k (by omega) (by omega)⟩
  · intro ⟨q1, q2⟩; exact ⟨q1, fun k _ hk => q2 k (by omega)⟩
theorem lm_dead {x : Int64} (h : tk_ok x) : wt_lm wt_dead x = x := by
  apply tI_ext
  intro z
  rw [tI_lm, tI_dead]
  have := tk_le h
  constructor
  · intro q; exact q.2
  · intro q; exact ⟨by omega, q⟩
theorem first_same (hd : dt_ok mn zs wd pn ph pa ch sz en kn co bo gc gb sc sh sl) (nd nc : Nat → Int32) : same mn zs pn ch (cs ph pa en sz gc gb sc sh sl 1).1 (mx pn wd zs mn kn co bo sh sl sc nd nc 1) := by
  intro K P UV hK hP hUV
  obtain ⟨-, hst⟩ := first_spec hd nd nc
  obtain ⟨hm, hzw, htr, hsz, hen, hgr, hsc, hsh, hsl⟩ := hd
  have hz := (htr.1 K hK).1
  obtain ⟨hpn, hn1, hn2, hph, hpa⟩ := (htr.1 K hK).2 (P / 3) (by omega)
  have hall := (hr_all (ph := ph) (pa := pa) (sc := sc) (sh := sh) (sl := sl) (wt := vp_updL (fun _ => wt_dead) (wt_cx 4 4) 0) (t := 0) (sz := sz) (by omega) (fun n h1 h2 => (htr.2.1 n h1 h2).1) 25 0 (fun _ => wt_dead)).1 UV (tr_nd ch pn K (P / 3 + 1)) (P % 3) (by omega) (by omega) hn1 hn2 (by omega)
  show wt_up (fun c tok => wt_hear ph pa sz sc sh sl (vp_updL (fun _ => wt_dead) (wt_cx 4 4) 0) 0 c tok) 25 0 (fun _ => wt_dead) _ = _
  rw [hall]
  obtain ⟨S, hS, eS⟩ := hsc (12 * 0 + 3 * pn (3 * K + P / 3) + P % 3) (by omega)
  have eix : 0 * 12 + ph (tr_nd ch pn K (P / 3 + 1)) * 3 + P % 3 = 12 * 0 + 3 * pn (3 * K + P / 3) + P % 3 := by rw [hph]; omega
  unfold hr_F
  rw [eix, eS, tk_pc_dead]
  apply tI_ext
  intro x
  rw [hst _ x (by omega)]
  by_cases h0 : P = 0 ∧ UV = 24
  · obtain ⟨rfl, rfl⟩ := h0
    have ecm : wt_cm pa sl (fun _ => wt_dead) (vp_updL (fun _ => wt_dead) (wt_cx 4 4) 0) 24 (tr_nd ch pn K (0 / 3 + 1)) (0 % 3) = lN 0 := by
      unfold wt_cm
      rw [if_neg (by decide), if_pos (by rw [hpa]; rfl)]
      exact pk_uLs
    rw [ecm, lm_dead (Or.inr ⟨0, by omega, rfl⟩)]
    constructor
    · intro q
      refine ⟨?_, fun k hk hj => ?_⟩
      · rw [tk_gal (Or.inr ⟨0, by omega, rfl⟩) (by omega)] at q; exact q.1
      · have : k = K := by omega
        subst this
        show x ≤ tI (wt_pc (lN 0) (sc (12 * 0 + 3 * pn (3 * k + 0 / 3) + 0 % 3)))
        rw [eS]; exact q
    · intro q
      have := q.2 K hK rfl
      have e9 : tI (wt_pc (lN (0 * 65536 + 0 * 1024 + 0)) (sc (12 * 0 + 3 * pn (3 * K + 0 / 3) + 0 % 3))) = tI (wt_pc (lN 0) (nI S)) := by rw [eS]
      rw [e9] at this
      exact this
  · have ecm : wt_cm pa sl (fun _ => wt_dead) (vp_updL (fun _ => wt_dead) (wt_cx 4 4) 0) UV (tr_nd ch pn K (P / 3 + 1)) (P % 3) = wt_dead := by
      unfold wt_cm wt_lv
      by_cases hs0 : 0 < P % 3
      · rw [if_pos hs0, tk_pc_dead]
      · rw [if_neg hs0]
        by_cases hp0 : pa (tr_nd ch pn K (P / 3 + 1)) = 0
        · rw [if_pos hp0]
          have hP0 : P = 0 := by
            rw [hpa] at hp0
            by_cases hP3 : P / 3 = 0
            · omega
            · have := ((htr.1 K hK).2 (P / 3 - 1) (by omega)).2.1
              rw [show P / 3 - 1 + 1 = P / 3 by omega] at this
              omega
          exact pk_uLn (fun q => h0 ⟨hP0, by rw [q]; rfl⟩)
        · rw [if_neg hp0, tk_pc_dead]
    rw [ecm, lm_dead tk_ok_dead, tk_pc_dead, tI_dead]
    constructor
    · intro q; exact ⟨q, fun k hk hj => absurd ⟨by omega, by omega⟩ h0⟩
    · intro q; exact q.1
/-- tokens live at nodes alone -/
def off (sz : Nat) (tok : Nat → Int64) : Prop := ∀ c n s, c < 25 → n < 25 → s < 3 → (n = 0 ∨ sz < n) → tok (wt_pl c n s) = wt_dead
theorem off_cs (hsz : sz ≤ 24) (hpa : ∀ n, 1 ≤ n → n ≤ sz → pa n < n) : ∀ n, off sz (cs ph pa en sz gc gb sc sh sl n).1
  | 0 => fun _ _ _ _ _ _ _ => rfl
  | n + 1 => by
    intro c m s hc hm hs h
    have e := (hr_all (ph := ph) (pa := pa) (sc := sc) (sh := sh) (sl := sl) (wt := (cs ph pa en sz gc gb sc sh sl n).2) (t := n) (sz := sz) (by omega) hpa 25 0 (cs ph pa en sz gc gb sc sh sl n).1).2 (wt_pl c m s) (fun c' n' s' _ _ g3 g4 g5 q => absurd (pl_inj hm hs (by omega) g5 q).2.1 (by omega))
    show wt_up (fun c tok => wt_hear ph pa sz sc sh sl (cs ph pa en sz gc gb sc sh sl n).2 n c tok) 25 0 _ _ = _
    rw [e]
    exact off_cs hsz hpa n c m s hc hm hs h
/-- every node's token is the reference's -/
theorem same_tok (htr : tr_ok mn zs pn ph pa ch sz) {tok : Nat → Int64} {x : wt_N} (hs : same mn zs pn ch tok x) {c n s : Nat} (hc : c < 25) (h1 : 1 ≤ n) (h2 : n ≤ sz) (hs3 : s < 3) : ∃ k i, k < mn ∧ i < zs k ∧ tr_nd ch pn k (i + 1) = n ∧ tok (wt_pl c n s) = EN x (225 * k + 25 * (3 * i + s) + c) := by
  obtain ⟨-, -, k, i, hk, hi, e⟩ := htr.2.1 n h1 h2
  refine ⟨k, i, hk, hi, e, ?_⟩
  have := hs k (3 * i + s) c hk (by omega) hc
  rw [show (3 * i + s) / 3 = i by omega, show (3 * i + s) % 3 = s by omega, e] at this
  exact this
theorem waits_of (hd : dt_ok mn zs wd pn ph pa ch sz en kn co bo gc gb sc sh sl) {T : Nat} (hT : T ≤ 15) {x : wt_N} (h0 : tri_all T mn zs x) {tok : Nat → Int64} (hs : same mn zs pn ch tok x) : waits en sz gc gb sl tok (wt_ea en sz gc gb sl tok) := by
  have hd' := hd
  obtain ⟨hm, hzw, htr, hsz, hen, hgr, hsc, hsh, hsl⟩ := hd'
  have zb : ∀ c n w, c < 25 → 1 ≤ n → n ≤ sz → w < 4 → en (n * 4 + w) = true → tk_b (2 ^ 42) (wa_z gc gb sl tok c n w) := by
    intro c n w hc h1 h2 hw he
    obtain ⟨k, hk, rfl, rfl⟩ := (hen n w h1 h2 hw).mp he
    have hz1 := (hzw k hk).1
    have hz3 := (htr.1 k hk).1
    have j1 : (225 * k + 25 * (3 * zs k - 1) + c) / 225 = k := by omega
    have j2 : (225 * k + 25 * (3 * zs k - 1) + c) / 25 % 9 = 3 * zs k - 1 := by omega
    have j3 : (225 * k + 25 * (3 * zs k - 1) + c) % 5 = c % 5 := by omega
    have j4 : (225 * k + 25 * (3 * zs k - 1) + c) / 5 % 5 = c / 5 := by omega
    have ok := ends_b hd (T := T) hT h0 (i := 225 * k + 25 * (3 * zs k - 1) + c) (by omega) (by rw [j1]; exact hk) (by rw [j1, j2]; omega) (by rw [j1, j2])
    rw [j1, j3, j4] at ok
    have eT := hs k (3 * zs k - 1) c hk (by omega) hc
    rw [show (3 * zs k - 1) / 3 + 1 = zs k by omega, show (3 * zs k - 1) % 3 = 2 by omega] at eT
    unfold wa_z wt_lv
    rw [eT, (gr_aft hgr (u := c / 5) (v := c % 5) (w := wd k) (by omega) (by omega) (by omega)).1]
    exact ok
  obtain ⟨a1, a2⟩ := wa_all zb
  exact ⟨fun j _ => a1 j, a2⟩
/-- after n frames the class's tokens are the reference's -/
theorem frames_rel (hd : dt_ok mn zs wd pn ph pa ch sz en kn co bo gc gb sc sh sl) (nd nc : Nat → Int32) : ∀ n, n + 1 ≤ 15 →
    tri_all (n + 1) mn zs (mx pn wd zs mn kn co bo sh sl sc nd nc (n + 1)) ∧ same mn zs pn ch (cs ph pa en sz gc gb sc sh sl (n + 1)).1 (mx pn wd zs mn kn co bo sh sl sc nd nc (n + 1)) ∧ waits en sz gc gb sl (cs ph pa en sz gc gb sc sh sl (n + 1)).1 (cs ph pa en sz gc gb sc sh sl (n + 1)).2 := by
  intro n
  induction n with
  | zero =>
    intro _
    have h1 := (first_spec hd nd nc).1
    have h2 := first_same hd nd nc
    have h3 := waits_of hd (T := 1) (by omega) h1 h2
    exact ⟨h1, h2, h3⟩
  | succ n ih =>
    intro hn
    obtain ⟨h1, h2, h3⟩ := ih (by omega)
    have e : mx pn wd zs mn kn co bo sh sl sc nd nc (n + 1 + 1) = wt_st pn wd zs mn kn co bo sh sl sc (n + 1) (mx pn wd zs mn kn co bo sh sl sc nd nc (n + 1)) := if_neg (by omega)
    have g1 := (st_spec hd (T := n + 1) (t := n + 1) (by omega) (by omega) h1).1
    have g2 := main_step hd (T := n + 1) (t := n + 1) (by omega) (by omega) h1 h2 h3
    have g3 := waits_of hd (T := n + 1 + 1) (by omega) g1 g2
    have e3 : cs ph pa en sz gc gb sc sh sl (n + 1 + 1) = (wt_ha ph pa sz sc sh sl (cs ph pa en sz gc gb sc sh sl (n + 1)).2 (n + 1) (cs ph pa en sz gc gb sc sh sl (n + 1)).1, wt_ea en sz gc gb sl (wt_ha ph pa sz sc sh sl (cs ph pa en sz gc gb sc sh sl (n + 1)).2 (n + 1) (cs ph pa en sz gc gb sc sh sl (n + 1)).1)) := rfl
    rw [e, e3]
    generalize wt_ha ph pa sz sc sh sl (cs ph pa en sz gc gb sc sh sl (n + 1)).2 (n + 1) (cs ph pa en sz gc gb sc sh sl (n + 1)).1 = tk at g2 g3 ⊢
    generalize wt_ea en sz gc gb sl tk = wk at g3 ⊢
    exact ⟨g1, g2, g3⟩
end FRAMES
end
section
/-! the reference's frames, whole path, counts, as it computes -/
def wt_first (pn : Nat → Nat) (so : Nat → Int32) (mn : Nat) (x : wt_N) : wt_N := wt_up (fun k x => wt_come pn so 0 k 0 24 (nI 0) (nI 0) (nI 0) x) mn 0 x
def wt_mrun (pn wd zs : Nat → Nat) (mn : Nat) (kn : Nat → Bool) (co bo ho le so : Nat → Int32) (n : Nat) (nd nc : Nat → Int32) : wt_N :=
  wt_up (fun t x => wt_st pn wd zs mn kn co bo ho le so t x) (n - 1) 1 (if n = 0 then ((fun _ => -1), nd, nc) else wt_first pn so mn ((fun _ => -1), nd, nc))
def wt_ends (zs : Nat → Nat) (ea : Nat → Int32) (i : Nat) : Bool := decide (0 ≤ ea i) && decide (i / 25 % 9 = 3 * zs (i / 225) - 1)
def wt_wh1 (wd zs : Nat → Nat) (kn : Nat → Bool) (co bo le ea dn cd : Nat → Int32) (i : Nat) (x : Int32 × Int32 × Int32) : Int32 × Int32 × Int32 :=
  if wt_ends zs ea i = true ∧ ¬ wt_afN kn co bo (i / 5 % 5) (i % 5) (wd (i / 225)) < 0 ∧ ¬ wt_afN kn co bo (i % 5) (wd (i / 225)) 4 < 0 ∧ wt_bet (ea i + le 2 + wt_afN kn co bo (i / 5 % 5) (i % 5) (wd (i / 225)) + wt_afN kn co bo (i % 5) (wd (i / 225)) 4) (dn i + nI 1) (nI 4 * cd i + nI (wd (i / 225))) x.1 x.2.1 x.2.2 = true
  then (ea i + le 2 + wt_afN kn co bo (i / 5 % 5) (i % 5) (wd (i / 225)) + wt_afN kn co bo (i % 5) (wd (i / 225)) 4, dn i + nI 1, nI 4 * cd i + nI (wd (i / 225))) else x
def wt_wh (wd zs : Nat → Nat) (mn : Nat) (kn : Nat → Bool) (co bo le ea dn cd : Nat → Int32) : Int32 × Int32 × Int32 := wt_up (fun i x => wt_wh1 wd zs kn co bo le ea dn cd i x) (225 * mn) 0 (-1, nI 0, nI 0)
def wt_lv1 (zs : Nat → Nat) (fp ea : Nat → Int32) (i n : Nat) : Nat := if 0 ≤ ea i ∧ wt_fre zs fp (i / 225) (i / 25 % 9 / 3 + 1) = true then n + 1 else n
def wt_live (zs : Nat → Nat) (mn : Nat) (fp ea : Nat → Int32) : Nat := wt_up (fun i n => wt_lv1 zs fp ea i n) (225 * mn) 0 0
def wt_be1 (ea : Nat → Int32) (i : Nat) (c : Int32) : Int32 := if 0 ≤ ea i ∧ (c < 0 ∨ ea i < c) then ea i else c
def wt_best (ea : Nat → Int32) : Int32 := wt_up (fun i c => wt_be1 ea i c) 1800 0 (-1)
def wt_mw (wo wh ix : Int32) : Int32 := if ix < 0 ∨ ¬ ix < wo then -1 else wh >>> ((nI 2 * (wo - nI 1 - ix)) &&& 31) &&& nI 3
theorem mrun_mx (pn wd zs : Nat → Nat) (mn : Nat) (kn : Nat → Bool) (co bo ho le so nd nc : Nat → Int32) : ∀ n, wt_mrun pn wd zs mn kn co bo ho le so n nd nc = mx pn wd zs mn kn co bo ho le so nd nc n
  | 0 => rfl
  | 1 => rfl
  | n + 2 => by
    have e : wt_mrun pn wd zs mn kn co bo ho le so (n + 2) nd nc = wt_st pn wd zs mn kn co bo ho le so (1 + n) (wt_mrun pn wd zs mn kn co bo ho le so (n + 1) nd nc) := by
      unfold wt_mrun
      rw [if_neg (by omega), if_neg (by omega), show n + 2 - 1 = n + 1 by omega, show n + 1 - 1 = n by omega]
      exact up_snoc _ n 1 _
    have e2 : mx pn wd zs mn kn co bo ho le so nd nc (n + 2) = wt_st pn wd zs mn kn co bo ho le so (n + 1) (mx pn wd zs mn kn co bo ho le so nd nc (n + 1)) := if_neg (by omega)
    rw [e, e2, mrun_mx pn wd zs mn kn co bo ho le so nd nc (n + 1), Nat.add_comm 1 n]
end
section
/-! how many places are live, and the least cost there -/
theorem ms_up (tok : Nat → Int64) : ∀ (r i c : Nat) (l : Int64),
    (wt_up (fun k x => wt_ms1 tok k x) r i (c, l)).1 = c + sm (fun k => if tok (i + k) = wt_dead then 0 else 1) r ∧
    (∀ z : Int, z ≤ tI (wt_up (fun k x => wt_ms1 tok k x) r i (c, l)).2 ↔ z ≤ tI l ∧ ∀ k, i ≤ k → k < i + r → tok k ≠ wt_dead → z ≤ tI (tok k)) ∧
    ((wt_up (fun k x => wt_ms1 tok k x) r i (c, l)).2 = l ∨ ∃ k, i ≤ k ∧ k < i + r ∧ tok k ≠ wt_dead ∧ (wt_up (fun k x => wt_ms1 tok k x) r i (c, l)).2 = tok k)
  | 0, i, c, l => ⟨rfl, fun z => ⟨fun q => ⟨q, fun k h1 h2 => absurd h2 (by omega)⟩, fun q => q.1⟩, Or.inl rfl⟩
  | r + 1, i, c, l => by
    have e : wt_up (fun k x => wt_ms1 tok k x) (r + 1) i (c, l) = wt_up (fun k x => wt_ms1 tok k x) r (i + 1) (wt_ms1 tok i (c, l)) := rfl
    have es : sm (fun k => if tok (i + k) = wt_dead then 0 else 1) (r + 1) = (if tok i = wt_dead then 0 else 1) + sm (fun k => if tok (i + 1 + k) = wt_dead then 0 else 1) r := by
      rw [show r + 1 = 1 + r by omega, sm_app]
      show 0 + (if tok (i + 0) = wt_dead then 0 else 1) + sm (fun k => if tok (i + (1 + k)) = wt_dead then 0 else 1) r = _
      rw [Nat.zero_add, sm_congr (f := fun k => if tok (i + (1 + k)) = wt_dead then 0 else 1) (g := fun k => if tok (i + 1 + k) = wt_dead then 0 else 1) r (fun k _ => by rw [← Nat.add_assoc])]
      rfl
    by_cases h : tok i = wt_dead
    · have e1 : wt_ms1 tok i (c, l) = (c, l) := if_pos h
      obtain ⟨a1, a2, a3⟩ := ms_up tok r (i + 1) c l
      rw [e, e1, es, if_pos h]
      refine ⟨by rw [a1]; omega, fun z => ?_, ?_⟩
      · rw [a2 z]
        constructor
        · intro ⟨q1, q2⟩
          refine ⟨q1, fun k h1 h2 h3 => ?_⟩
          by_cases hk : k = i
          · subst hk; exact absurd h h3
          · exact q2 k (by omega) (by omega) h3
        · intro ⟨q1, q2⟩; exact ⟨q1, fun k h1 h2 h3 => q2 k (by omega) (by omega) h3⟩
      · rcases a3 with a3 | ⟨k, h1, h2, h3, h4⟩
        · exact Or.inl a3
        · exact Or.inr ⟨k, by omega, by omega, h3, h4⟩
    · have e1 : wt_ms1 tok i (c, l) = (c + 1, wt_lm l (tok i)) := if_neg h
      obtain ⟨a1, a2, a3⟩ := ms_up tok r (i + 1) (c + 1) (wt_lm l (tok i))
      rw [e, e1, es, if_neg h]
      refine ⟨by rw [a1]; omega, fun z => ?_, ?_⟩
      · rw [a2 z, tI_lm]
        constructor
        · intro ⟨⟨q1, q3⟩, q2⟩
          refine ⟨q1, fun k h1 h2 h3 => ?_⟩
          by_cases hk : k = i
          · subst hk; exact q3
          · exact q2 k (by omega) (by omega) h3
        · intro ⟨q1, q2⟩; exact ⟨⟨q1, q2 i (by omega) (by omega) h⟩, fun k h1 h2 h3 => q2 k (by omega) (by omega) h3⟩
      · rcases a3 with a3 | ⟨k, h1, h2, h3, h4⟩
        · rw [a3]
          unfold wt_lm
          split
          · exact Or.inr ⟨i, by omega, by omega, h, rfl⟩
          · exact Or.inl rfl
        · exact Or.inr ⟨k, by omega, by omega, h3, h4⟩
section LIVE
variable {mn : Nat} {zs wd pn ph pa ch : Nat → Nat} {sz : Nat} {en : Nat → Bool} {kn : Nat → Bool} {co bo gc gb sc sh sl fp : Nat → Int32}
theorem alive_iff {T p : Nat} (hT : T ≤ 17) {x d w : Int32} (h : tri T p x d w) : enc x d w = wt_dead ↔ ¬ 0 ≤ x := by
  rw [tri_dead hT h]
  rcases h with rfl | ⟨a, b, c, rfl, -, -, ha, -, -⟩
  · exact ⟨fun _ => by decide, fun _ => rfl⟩
  · exact ⟨fun q => absurd q (wt_nI_nem1 (by omega)), fun q => absurd (nI_pos' (by omega)) q⟩
theorem live_eq (htr : tr_ok mn zs pn ph pa ch sz) (hsz : sz ≤ 24) (hts : tr_sum mn zs pn ch sz) (hfp : ∀ k i, k < mn → i < zs k → fp (3 * k + i) = nI (pn (3 * k + i)) ∧ pn (3 * k + i) < 4) (hm : mn ≤ 8) {T : Nat} (hT : T ≤ 17) {x : wt_N} (hx : tri_all T mn zs x) {tok : Nat → Int64} (hs : same mn zs pn ch tok x) (hof : off sz tok) : (wt_ms tok).1 = wt_live zs mn fp x.1 := by
  -- the class: a sum over nodes
  have c1 : (wt_ms tok).1 = sm (fun k => if tok k = wt_dead then 0 else 1) 1875 := by
    have := (ms_up tok 1875 0 0 wt_dead).1
    rw [Nat.zero_add] at this
    show (wt_up (fun k x => wt_ms1 tok k x) 1875 0 (0, wt_dead)).1 = _
    rw [this]
    exact sm_congr 1875 (fun k _ => by rw [Nat.zero_add])
  have c2 : sm (fun k => if tok k = wt_dead then 0 else 1) 1875 = sm (fun n => sm (fun c => sm (fun s => if tok (wt_pl c n s) = wt_dead then 0 else 1) 3) 25) 25 := by
    have a := sm_mul (fun k => if tok k = wt_dead then 0 else 1) 3 625
    have b := sm_mul (fun a => sm (fun s => if tok (a * 3 + s) = wt_dead then 0 else 1) 3) 25 25
    have d := sm_comm (fun c n => sm (fun s => if tok ((c * 25 + n) * 3 + s) = wt_dead then 0 else 1) 3) 25 25
    exact a.trans (b.trans d)
  have c3 : sm (fun n => sm (fun c => sm (fun s => if tok (wt_pl c n s) = wt_dead then 0 else 1) 3) 25) 25 = sm (fun n => sm (fun c => sm (fun s => if tok (wt_pl c (n + 1) s) = wt_dead then 0 else 1) 3) 25) sz := by
    have z : ∀ n, n < 25 → (n = 0 ∨ sz < n) → sm (fun c => sm (fun s => if tok (wt_pl c n s) = wt_dead then 0 else 1) 3) 25 = 0 := fun n hn h => sm_zero 25 (fun c hc => sm_zero 3 (fun s hs3 => if_pos (hof c n s hc hn hs3 h)))
    rw [show (25 : Nat) = 1 + (sz + (24 - sz)) by omega, sm_app, sm_app]
    have z1 : sm (fun n => sm (fun c => sm (fun s => if tok (wt_pl c n s) = wt_dead then 0 else 1) 3) (1 + (sz + (24 - sz)))) 1 = 0 := by
      rw [show 1 + (sz + (24 - sz)) = 25 by omega]
      show 0 + sm (fun c => sm (fun s => if tok (wt_pl c 0 s) = wt_dead then 0 else 1) 3) 25 = 0
      rw [z 0 (by omega) (Or.inl rfl)]
    rw [z1, show 1 + (sz + (24 - sz)) = 25 by omega]
    rw [sm_zero (f := fun i => sm (fun c => sm (fun s => if tok (wt_pl c (1 + (sz + i)) s) = wt_dead then 0 else 1) 3) 25) (24 - sz) (fun i hi => z _ (by omega) (Or.inr (by omega)))]
    rw [Nat.zero_add, Nat.add_zero]
    exact sm_congr sz (fun n _ => by rw [Nat.add_comm 1 n])
  rw [c1, c2, c3, ← hts (fun n => sm (fun c => sm (fun s => if tok (wt_pl c n s) = wt_dead then 0 else 1) 3) 25)]
  -- the reference: the same sum
  have r1 : wt_live zs mn fp x.1 = sm (fun i => if 0 ≤ x.1 i ∧ wt_fre zs fp (i / 225) (i / 25 % 9 / 3 + 1) = true then 1 else 0) (mn * 225) := by
    have e : wt_live zs mn fp x.1 = wt_up (fun i n => n + (if 0 ≤ x.1 i ∧ wt_fre zs fp (i / 225) (i / 25 % 9 / 3 + 1) = true then 1 else 0)) (225 * mn) 0 0 := by
      unfold wt_live
      apply up_congr
      intro j y _ _
      show (if _ then y + 1 else y) = _
      split
      · rfl
      · rfl
    rw [e, up_sum, Nat.zero_add, Nat.mul_comm]
    exact sm_congr _ (fun k _ => by rw [Nat.zero_add])
  rw [r1, sm_mul]
  apply sm_congr
  intro k hk
  have hz3 := (htr.1 k hk).1
  have r2 : sm (fun j => if 0 ≤ x.1 (k * 225 + j) ∧ wt_fre zs fp ((k * 225 + j) / 225) ((k * 225 + j) / 25 % 9 / 3 + 1) = true then 1 else 0) 225 = sm (fun i => sm (fun s => sm (fun uv => if 0 ≤ x.1 (k * 225 + ((i * 3 + s) * 25 + uv)) ∧ wt_fre zs fp ((k * 225 + ((i * 3 + s) * 25 + uv)) / 225) ((k * 225 + ((i * 3 + s) * 25 + uv)) / 25 % 9 / 3 + 1) = true then 1 else 0) 25) 3) 3 := by
    have a := sm_mul (fun j => if 0 ≤ x.1 (k * 225 + j) ∧ wt_fre zs fp ((k * 225 + j) / 225) ((k * 225 + j) / 25 % 9 / 3 + 1) = true then 1 else 0) 25 9
    have b := sm_mul (fun p => sm (fun uv => if 0 ≤ x.1 (k * 225 + (p * 25 + uv)) ∧ wt_fre zs fp ((k * 225 + (p * 25 + uv)) / 225) ((k * 225 + (p * 25 + uv)) / 25 % 9 / 3 + 1) = true then 1 else 0) 25) 3 3
    exact a.trans b
  have r3 : ∀ i s uv, i < 3 → s < 3 → uv < 25 → (k * 225 + ((i * 3 + s) * 25 + uv)) / 225 = k ∧ (k * 225 + ((i * 3 + s) * 25 + uv)) / 25 % 9 = 3 * i + s := fun i s uv h1 h2 h3 => ⟨by omega, by omega⟩
  rw [r2, show (3 : Nat) = zs k + (3 - zs k) by omega, sm_app]
  rw [show zs k + (3 - zs k) = 3 by omega]
  rw [sm_zero (f := fun i => sm (fun s => sm (fun uv => if 0 ≤ x.1 (k * 225 + (((zs k + i) * 3 + s) * 25 + uv)) ∧ wt_fre zs fp ((k * 225 + (((zs k + i) * 3 + s) * 25 + uv)) / 225) ((k * 225 + (((zs k + i) * 3 + s) * 25 + uv)) / 25 % 9 / 3 + 1) = true then 1 else 0) 25) 3) (3 - zs k) (fun i hi => sm_zero 3 (fun s hs3 => sm_zero 25 (fun uv huv => if_neg (fun q => by
    obtain ⟨e1, e2⟩ := r3 (zs k + i) s uv (by omega) hs3 huv
    rcases (hx (k * 225 + (((zs k + i) * 3 + s) * 25 + uv)) (by omega)).1 with g | g
    · rw [g] at q; exact absurd q.1 (by decide)
    · rw [e1, e2] at g; omega)))), Nat.add_zero]
  apply sm_congr
  intro i hi
  have ef : wt_fre zs (fun j => nI (pn j)) k (i + 1) = wt_fre zs fp k (i + 1) := by
    apply fre_congr
    intro j hj
    constructor
    · intro ⟨q1, q2, q3⟩
      exact ⟨q1, q2, fun a ha => by rw [(hfp j a (by omega) (by omega)).1, (hfp k a hk (by omega)).1]; exact q3 a ha⟩
    · intro ⟨q1, q2, q3⟩
      exact ⟨q1, q2, fun a ha => by have := q3 a ha; rw [(hfp j a (by omega) (by omega)).1, (hfp k a hk (by omega)).1] at this; exact this⟩
  rw [ef, sm_comm]
  by_cases hf : wt_fre zs fp k (i + 1) = true
  · rw [if_pos hf]
    apply sm_congr
    intro s hs3
    apply sm_congr
    intro uv huv
    obtain ⟨e1, e2⟩ := r3 i s uv (by omega) hs3 huv
    have et := hs k (3 * i + s) uv hk (by omega) huv
    rw [show (3 * i + s) / 3 = i by omega, show (3 * i + s) % 3 = s by omega] at et
    have ei : 225 * k + 25 * (3 * i + s) + uv = k * 225 + ((i * 3 + s) * 25 + uv) := by omega
    rw [ei] at et
    have al : EN x (k * 225 + ((i * 3 + s) * 25 + uv)) = wt_dead ↔ ¬ 0 ≤ x.1 (k * 225 + ((i * 3 + s) * 25 + uv)) := alive_iff hT (hx (k * 225 + ((i * 3 + s) * 25 + uv)) (by omega)).2
    rw [et, e1, e2, show (3 * i + s) / 3 + 1 = i + 1 by omega]
    by_cases ha : 0 ≤ x.1 (k * 225 + ((i * 3 + s) * 25 + uv))
    · rw [if_neg (fun q => (al.mp q) ha), if_pos ⟨ha, hf⟩]
    · rw [if_pos (al.mpr ha), if_neg (fun q => ha q.1)]
  · rw [if_neg hf]
    refine (sm_zero 3 (fun s hs3 => sm_zero 25 (fun uv huv => ?_))).symm
    obtain ⟨e1, e2⟩ := r3 i s uv (by omega) hs3 huv
    rw [e1, e2, show (3 * i + s) / 3 + 1 = i + 1 by omega]
    exact if_neg (fun q => hf q.2)
end LIVE
end
section
/-! the least cost, and the whole path -/
/-- the least of the reference's costs: -1 where there is none -/
theorem be_up (ea : Nat → Int32) (hea : ∀ i, i < 1800 → ea i = -1 ∨ ∃ a : Nat, a < 2 ^ 31 ∧ ea i = nI a) : ∀ (r i : Nat) (c : Int32), i + r ≤ 1800 → (c = -1 ∨ ∃ a : Nat, a < 2 ^ 31 ∧ c = nI a) →
    (wt_up (fun i c => wt_be1 ea i c) r i c = -1 ∧ c = -1 ∧ ∀ k, i ≤ k → k < i + r → ea k = -1) ∨
    (∃ b : Nat, b < 2 ^ 31 ∧ wt_up (fun i c => wt_be1 ea i c) r i c = nI b ∧ (c = nI b ∨ ∃ k, i ≤ k ∧ k < i + r ∧ ea k = nI b) ∧ (∀ a : Nat, a < 2 ^ 31 → c = nI a → b ≤ a) ∧ ∀ k (a : Nat), i ≤ k → k < i + r → a < 2 ^ 31 → ea k = nI a → b ≤ a)
  | 0, i, c, _, hc => by
    rcases hc with rfl | ⟨a, ha, rfl⟩
    · exact Or.inl ⟨rfl, rfl, fun k h1 h2 => absurd h2 (by omega)⟩
    · exact Or.inr ⟨a, ha, rfl, Or.inl rfl, fun a' ha' e => Nat.le_of_eq (nI_inj ha ha' e), fun k a h1 h2 => absurd h2 (by omega)⟩
  | r + 1, i, c, hi, hc => by
    have e : wt_up (fun i c => wt_be1 ea i c) (r + 1) i c = wt_up (fun i c => wt_be1 ea i c) r (i + 1) (wt_be1 ea i c) := rfl
    rw [e]
    rcases hea i (by omega) with hd | ⟨a, ha, ha2⟩
    · have e1 : wt_be1 ea i c = c := if_neg (fun q => by rw [hd] at q; exact absurd q.1 (by decide))
      rw [e1]
      rcases be_up ea hea r (i + 1) c (by omega) hc with ⟨q1, q2, q3⟩ | ⟨b, hb, q1, q2, q3, q4⟩
      · refine Or.inl ⟨q1, q2, fun k h1 h2 => ?_⟩
        by_cases hk : k = i
        · subst hk; exact hd
        · exact q3 k (by omega) (by omega)
      · refine Or.inr ⟨b, hb, q1, q2.elim Or.inl (fun ⟨k, h1, h2, h3⟩ => Or.inr ⟨k, by omega, by omega, h3⟩), q3, fun k a h1 h2 ha he => ?_⟩
        by_cases hk : k = i
        · subst hk; rw [hd] at he; exact absurd he.symm (wt_nI_nem1 ha)
        · exact q4 k a (by omega) (by omega) ha he
    · rcases hc with rfl | ⟨c', hc', rfl⟩
      · have e1 : wt_be1 ea i (-1) = nI a := (if_pos ⟨by rw [ha2]; exact nI_pos' ha, Or.inl (by decide)⟩).trans ha2
        rw [e1]
        rcases be_up ea hea r (i + 1) (nI a) (by omega) (Or.inr ⟨a, ha, rfl⟩) with ⟨q1, q2, q3⟩ | ⟨b, hb, q1, q2, q3, q4⟩
        · exact absurd q2 (wt_nI_nem1 ha)
        · refine Or.inr ⟨b, hb, q1, ?_, fun a' ha' he => absurd he.symm (wt_nI_nem1 ha'), fun k a' h1 h2 ha' he => ?_⟩
          · rcases q2 with q2 | ⟨k, h1, h2, h3⟩
            · exact Or.inr ⟨i, by omega, by omega, ha2.trans q2⟩
            · exact Or.inr ⟨k, by omega, by omega, h3⟩
          · by_cases hk : k = i
            · subst hk; exact q3 a' ha' (ha2.symm.trans he)
            · exact q4 k a' (by omega) (by omega) ha' he
      · by_cases hlt : a < c'
        · have e1 : wt_be1 ea i (nI c') = nI a := (if_pos ⟨by rw [ha2]; exact nI_pos' ha, Or.inr (by rw [ha2]; exact (nI_ltI ha hc').mpr hlt)⟩).trans ha2
          rw [e1]
          rcases be_up ea hea r (i + 1) (nI a) (by omega) (Or.inr ⟨a, ha, rfl⟩) with ⟨q1, q2, q3⟩ | ⟨b, hb, q1, q2, q3, q4⟩
          · exact absurd q2 (wt_nI_nem1 ha)
          · have hba := q3 a ha rfl
            refine Or.inr ⟨b, hb, q1, ?_, fun a' ha' he => by have := nI_inj hc' ha' he; omega, fun k a' h1 h2 ha' he => ?_⟩
            · rcases q2 with q2 | ⟨k, h1, h2, h3⟩
              · exact Or.inr ⟨i, by omega, by omega, ha2.trans q2⟩
              · exact Or.inr ⟨k, by omega, by omega, h3⟩
            · by_cases hk : k = i
              · subst hk; exact q3 a' ha' (ha2.symm.trans he)
              · exact q4 k a' (by omega) (by omega) ha' he
        · have e1 : wt_be1 ea i (nI c') = nI c' := if_neg (fun q => q.2.elim (nI_pos hc') (fun z => by rw [ha2] at z; exact hlt ((nI_ltI ha hc').mp z)))
          rw [e1]
          rcases be_up ea hea r (i + 1) (nI c') (by omega) (Or.inr ⟨c', hc', rfl⟩) with ⟨q1, q2, q3⟩ | ⟨b, hb, q1, q2, q3, q4⟩
          · exact absurd q2 (wt_nI_nem1 hc')
          · have hbc := q3 c' hc' rfl
            refine Or.inr ⟨b, hb, q1, q2.elim Or.inl (fun ⟨k, h1, h2, h3⟩ => Or.inr ⟨k, by omega, by omega, h3⟩), q3, fun k a' h1 h2 ha' he => ?_⟩
            by_cases hk : k = i
            · subst hk; have := nI_inj ha ha' (ha2.symm.trans he); omega
            · exact q4 k a' (by omega) (by omega) ha' he
section WHOLE
variable {mn : Nat} {zs wd pn ph pa ch : Nat → Nat} {sz : Nat} {en : Nat → Bool} {kn : Nat → Bool} {co bo gc gb sc sh sl fp : Nat → Int32}
/-- a place in the class's order: its context, node, state -/
theorem pl_of {k : Nat} (hk : k < 1875) : ∃ c n s, c < 25 ∧ n < 25 ∧ s < 3 ∧ k = wt_pl c n s := ⟨k / 75, k / 3 % 25, k % 3, by omega, by omega, by omega, by unfold wt_pl; omega⟩
theorem best_eq (htr : tr_ok mn zs pn ph pa ch sz) (hsz : sz ≤ 24) (hm : mn ≤ 8) {T : Nat} (hT : T ≤ 17) {x : wt_N} (hx : tri_all T mn zs x) {tok : Nat → Int64} (hs : same mn zs pn ch tok x) (hof : off sz tok) : wt_tc (wt_ms tok).2 = wt_best x.1 := by
  have hea : ∀ i, i < 1800 → x.1 i = -1 ∨ ∃ a : Nat, a < 2 ^ 31 ∧ x.1 i = nI a := fun i hi => (hx i hi).2.elim Or.inl (fun ⟨a, b, c, e, _, _, ha, _, _⟩ => Or.inr ⟨a, by omega, e⟩)
  obtain ⟨-, m2, m3⟩ := ms_up tok 1875 0 0 wt_dead
  -- an alive token of the class is one of the reference's
  have cls : ∀ k, k < 1875 → tok k ≠ wt_dead → ∃ i, i < 1800 ∧ tok k = EN x i := by
    intro k hk hne
    obtain ⟨c, n, s, hc, hn, hs3, rfl⟩ := pl_of hk
    by_cases h : n = 0 ∨ sz < n
    · exact absurd (hof c n s hc hn hs3 h) hne
    · obtain ⟨k', i, hk', hi, -, e⟩ := same_tok htr hs hc (show 1 ≤ n by omega) (by omega) hs3
      have := (htr.1 k' hk').1
      exact ⟨_, by omega, e⟩
  have refp : ∀ i, i < 1800 → x.1 i ≠ -1 → ∃ k, k < 1875 ∧ tok k = EN x i ∧ tok k ≠ wt_dead := by
    intro i hi hne
    obtain ⟨hk, hp⟩ := (hx i hi).1.resolve_left hne
    have hz3 := (htr.1 _ hk).1
    have e := hs (i / 225) (i / 25 % 9) (i % 25) hk hp (by omega)
    rw [show 225 * (i / 225) + 25 * (i / 25 % 9) + i % 25 = i by omega] at e
    have hn := ((htr.1 _ hk).2 (i / 25 % 9 / 3) (by omega)).2.2.1
    refine ⟨_, wt_pl_lt (show i % 25 < 25 by omega) (show tr_nd ch pn (i / 225) (i / 25 % 9 / 3 + 1) < 25 by omega) (show i / 25 % 9 % 3 < 3 by omega), e, ?_⟩
    rw [e]
    exact fun q => hne ((tri_dead hT (hx i hi).2).mp q)
  have num : ∀ i, i < 1800 → x.1 i ≠ -1 → ∃ a b c : Nat, a < 2 ^ 31 ∧ b < 64 ∧ c < 1024 ∧ x.1 i = nI a ∧ EN x i = lN (a * 65536 + b * 1024 + c) := by
    intro i hi hne
    obtain ⟨a, b, c, ea, eb, ec, ha, hb, hc⟩ := (hx i hi).2.resolve_left hne
    have k1 := p4_le (show b ≤ 5 by omega)
    have e5 : (4 : Nat) ^ 5 = 1024 := rfl
    exact ⟨a, b, c, by omega, by omega, by omega, ea, by show enc _ _ _ = _; rw [ea, eb, ec, enc_n (by omega) (by omega) (by omega)]⟩
  show wt_tc (wt_up (fun k x => wt_ms1 tok k x) 1875 0 (0, wt_dead)).2 = wt_up (fun i c => wt_be1 x.1 i c) 1800 0 (-1)
  rcases be_up x.1 hea 1800 0 (-1) (by omega) (Or.inl rfl) with ⟨q1, -, q3⟩ | ⟨b, hb, q1, q2, -, q4⟩
  · rw [q1]
    rcases m3 with m3 | ⟨k, h1, h2, h3, h4⟩
    · rw [m3, tk_tc_dead]
    · obtain ⟨i, hi, e⟩ := cls k (by omega) h3
      exact absurd (by rw [e]; show enc _ _ _ = _; rw [q3 i (by omega) (by omega), enc_m1]) h3
  · rw [q1]
    obtain ⟨i, -, hi, ei⟩ := q2.resolve_left (fun q => wt_nI_nem1 hb q.symm)
    have hne : x.1 i ≠ -1 := by rw [ei]; exact wt_nI_nem1 hb
    obtain ⟨k, hk, ek, hkd⟩ := refp i (by omega) hne
    obtain ⟨a, b1, c1, ha, hb1, hc1, ea, eE⟩ := num i (by omega) hne
    have hab : a = b := nI_inj ha hb (ea.symm.trans ei)
    have hle := ((m2 _).mp (Int.le_refl _)).2 k (by omega) (by omega) hkd
    rcases m3 with m3 | ⟨k0, h1, h2, h3, h4⟩
    · rw [m3, ek, eE, tI_dead, tI_lN (by omega)] at hle
      omega
    · obtain ⟨i0, hi0, e0⟩ := cls k0 (by omega) h3
      have hne0 : x.1 i0 ≠ -1 := fun q => h3 (by rw [e0]; show enc _ _ _ = _; rw [q, enc_m1])
      obtain ⟨a0, b0, c0, ha0, hb0, hc0, ea0, eE0⟩ := num i0 hi0 hne0
      have h5 := q4 i0 a0 (by omega) (by omega) ha0 ea0
      rw [h4, e0, ek, eE, eE0, tI_lN (by omega), tI_lN (by omega)] at hle
      rw [h4, e0, eE0, tk_tc ha0 hb0 hc0]
      exact congrArg nI (by omega)
end WHOLE
end
section
/-! the whole path of both -/
theorem up_le1 {σ : Type} {v : σ → Int64} {C : Nat → Int → Prop} {I : σ → Prop} {step : Nat → σ → σ} :
    ∀ (r i : Nat) (f : σ), I f → (∀ k g, i ≤ k → k < i + r → I g → I (step k g)) → (∀ k g, i ≤ k → k < i + r → I g → ∀ x : Int, (x ≤ tI (v (step k g)) ↔ x ≤ tI (v g) ∧ C k x)) →
      I (wt_up step r i f) ∧ ∀ x : Int, (x ≤ tI (v (wt_up step r i f)) ↔ x ≤ tI (v f) ∧ ∀ k, i ≤ k → k < i + r → C k x)
  | 0, i, f, hI, _, _ => ⟨hI, fun x => ⟨fun q => ⟨q, fun k h1 h2 => absurd h2 (by omega)⟩, fun q => q.1⟩⟩
  | r + 1, i, f, hI, hk, hs => by
    have ih := up_le1 (v := v) (C := C) (I := I) (step := step) r (i + 1) (step i f) (hk i f (Nat.le_refl i) (by omega) hI) (fun k g h1 h2 => hk k g (by omega) (by omega)) (fun k g h1 h2 => hs k g (by omega) (by omega))
    refine ⟨ih.1, fun x => ?_⟩
    show x ≤ tI (v (wt_up step r (i + 1) (step i f))) ↔ _
    rw [ih.2 x, hs i f (Nat.le_refl i) (by omega) hI x]
    constructor
    · intro ⟨⟨q1, q2⟩, q3⟩
      refine ⟨q1, fun k h1 h2 => ?_⟩
      by_cases hki : k = i
      · subst hki; exact q2
      · exact q3 k (by omega) (by omega)
    · intro ⟨q1, q2⟩
      exact ⟨⟨q1, q2 i (Nat.le_refl i) (by omega)⟩, fun k h1 h2 => q2 k (by omega) (by omega)⟩
def eT (y : Int32 × Int32 × Int32) : Int64 := enc y.1 y.2.1 y.2.2
def wok (y : Int32 × Int32 × Int32) : Prop := tri 17 0 y.1 y.2.1 y.2.2 ∧ (y.1 = -1 → y.2.1 = nI 0 ∧ y.2.2 = nI 0)
section PATH
variable {mn : Nat} {zs wd pn ph pa ch : Nat → Nat} {sz : Nat} {en : Nat → Bool} {kn : Nat → Bool} {co bo gc gb sc sh sl fp : Nat → Int32}
def endC (wd zs : Nat → Nat) (kn : Nat → Bool) (co bo sl : Nat → Int32) (E : Nat → Int64) (i : Nat) (z : Int) : Prop :=
  i / 25 % 9 = 3 * zs (i / 225) - 1 → z ≤ tI (wt_pc (wt_pw (wt_pc (wt_pc (E i) (sl 2)) (wt_afN kn co bo (i / 5 % 5) (i % 5) (wd (i / 225)))) (nI (wd (i / 225)))) (wt_afN kn co bo (i % 5) (wd (i / 225)) 4))
theorem wok_le {y : Int32 × Int32 × Int32} (h : wok y) : tI (eT y) ≤ 4611686018427387904 := tk_le (tri_ok (by omega) h.1)
theorem wh_step (hd : dt_ok mn zs wd pn ph pa ch sz en kn co bo gc gb sc sh sl) {T : Nat} (hT : T ≤ 15) {x : wt_N} (h0 : tri_all T mn zs x) {i : Nat} (hi : i < 225 * mn) {y : Int32 × Int32 × Int32} (hy : wok y) :
    wok (wt_wh1 wd zs kn co bo sl x.1 x.2.1 x.2.2 i y) ∧ ∀ z : Int, (z ≤ tI (eT (wt_wh1 wd zs kn co bo sl x.1 x.2.1 x.2.2 i y)) ↔ z ≤ tI (eT y) ∧ endC wd zs kn co bo sl (EN x) i z) := by
  obtain ⟨hm, hzw, htr, -, -, hgr, -, -, hsl⟩ := hd
  have hle := wok_le hy
  have hi2 : i < 1800 := by omega
  have hk : i / 225 < mn := by omega
  have hw4 := (hzw _ hk).2
  have hz1 := (hzw _ hk).1
  obtain ⟨g, hg, eg⟩ := hsl 2 (by omega)
  have keep : (∀ z : Int, z ≤ 4611686018427387904 → endC wd zs kn co bo sl (EN x) i z) → wt_wh1 wd zs kn co bo sl x.1 x.2.1 x.2.2 i y = y → wok (wt_wh1 wd zs kn co bo sl x.1 x.2.1 x.2.2 i y) ∧ ∀ z : Int, (z ≤ tI (eT (wt_wh1 wd zs kn co bo sl x.1 x.2.1 x.2.2 i y)) ↔ z ≤ tI (eT y) ∧ endC wd zs kn co bo sl (EN x) i z) := by
    intro h e
    rw [e]
    exact ⟨hy, fun z => ⟨fun q => ⟨q, h z (by omega)⟩, fun q => q.1⟩⟩
  by_cases hp : i / 25 % 9 = 3 * zs (i / 225) - 1
  · rcases (h0 i hi2).2 with hdead | ⟨a, b, c, ea, eb, ec, ha, hb, hc⟩
    · refine keep (fun z hz _ => ?_) (if_neg (fun q => by have := q.1; unfold wt_ends at this; rw [hdead] at this; exact absurd this (by rw [decide_eq_false (show ¬ (0 : Int32) ≤ -1 by decide), Bool.false_and]; decide)))
      have e : EN x i = wt_dead := by show enc (x.1 i) _ _ = _; rw [hdead, enc_m1]
      rw [e, tk_pc_dead, tk_pc_dead, tk_pw_dead, tk_pc_dead, tI_dead]; exact hz
    · have k1 := p4_le (show b ≤ 4 by omega)
      have e4 : (4 : Nat) ^ 4 = 256 := rfl
      obtain ⟨-, hA⟩ := gr_aft hgr (u := i / 5 % 5) (v := i % 5) (w := wd (i / 225)) (by omega) (by omega) (by omega)
      obtain ⟨-, hB⟩ := gr_aft hgr (u := i % 5) (v := wd (i / 225)) (w := 4) (by omega) (by omega) (by omega)
      rcases hA with hA | ⟨A, hA, eA⟩
      · refine keep (fun z hz _ => ?_) (if_neg (fun q => q.2.1 (by rw [hA]; decide)))
        rw [hA, tk_pc_m1, tk_pw_dead, tk_pc_dead, tI_dead]; exact hz
      · rcases hB with hB | ⟨B, hB, eB⟩
        · refine keep (fun z hz _ => ?_) (if_neg (fun q => q.2.2.1 (by rw [hB]; decide)))
          rw [hB, tk_pc_m1, tI_dead]; exact hz
        · have p4 : 4 ^ (b + 1) = 4 ^ b * 4 := rfl
          have eV : x.1 i + sl 2 + wt_afN kn co bo (i / 5 % 5) (i % 5) (wd (i / 225)) + wt_afN kn co bo (i % 5) (wd (i / 225)) 4 = nI (a + g + A + B) := by rw [ea, eg, eA, eB, nI_add, nI_add, nI_add]
          have eD : x.2.1 i + nI 1 = nI (b + 1) := by rw [eb, nI_add]
          have eC : nI 4 * x.2.2 i + nI (wd (i / 225)) = nI (4 * c + wd (i / 225)) := by rw [ec, pk_mul, nI_add]
          have hn : tri 17 0 (nI (a + g + A + B)) (nI (b + 1)) (nI (4 * c + wd (i / 225))) := Or.inr ⟨_, _, _, rfl, rfl, rfl, by omega, by omega, by omega⟩
          have hbt := bet_iff (T := 17) (p := 0) (q := 0) (by omega) (a := a + g + A + B) (b := b + 1) (c := 4 * c + wd (i / 225)) (by omega) (by omega) (by omega) hy.1
          have eE : wt_pc (wt_pw (wt_pc (wt_pc (EN x i) (sl 2)) (wt_afN kn co bo (i / 5 % 5) (i % 5) (wd (i / 225)))) (nI (wd (i / 225)))) (wt_afN kn co bo (i % 5) (wd (i / 225)) 4) = enc (nI (a + g + A + B)) (nI (b + 1)) (nI (4 * c + wd (i / 225))) := by
            rw [enc_n (by omega) (by omega) (by omega), eA, eB, eg]
            have e1 : EN x i = lN (a * 65536 + b * 1024 + c) := by show enc _ _ _ = _; rw [ea, eb, ec, enc_n (by omega) (by omega) (by omega)]
            rw [e1, tk_pc (by omega) (by omega), tk_pc (by omega) (by omega), show a * 65536 + b * 1024 + c + g * 65536 + A * 65536 = (a + g + A) * 65536 + b * 1024 + c by omega, tk_pw (by omega) (by omega) (by omega) hw4, tk_pc (by omega) (by omega)]
            exact congrArg lN (by omega)
          have hen : wt_ends zs x.1 i = true := by
            unfold wt_ends
            rw [decide_eq_true (show 0 ≤ x.1 i by rw [ea]; exact nI_pos' (by omega)), decide_eq_true hp]; rfl
          have eEC : ∀ z : Int, endC wd zs kn co bo sl (EN x) i z ↔ z ≤ tI (enc (nI (a + g + A + B)) (nI (b + 1)) (nI (4 * c + wd (i / 225)))) := by
            intro z
            unfold endC
            rw [eE]
            exact ⟨fun q => q hp, fun q _ => q⟩
          by_cases hq : wt_bet (nI (a + g + A + B)) (nI (b + 1)) (nI (4 * c + wd (i / 225))) y.1 y.2.1 y.2.2 = true
          · have e : wt_wh1 wd zs kn co bo sl x.1 x.2.1 x.2.2 i y = (nI (a + g + A + B), nI (b + 1), nI (4 * c + wd (i / 225))) := by
              unfold wt_wh1
              rw [eV, eD, eC]
              exact if_pos ⟨hen, by rw [eA]; exact nI_pos (by omega), by rw [eB]; exact nI_pos (by omega), hq⟩
            have hlt : tI (enc (nI (a + g + A + B)) (nI (b + 1)) (nI (4 * c + wd (i / 225)))) < tI (eT y) := Int64.lt_iff_toInt_lt.mp (hbt.mp hq)
            rw [e]
            refine ⟨⟨hn, fun q => absurd q (wt_nI_nem1 (by omega))⟩, fun z => ?_⟩
            rw [eEC z]
            constructor
            · intro q
              have q' : z ≤ tI (enc (nI (a + g + A + B)) (nI (b + 1)) (nI (4 * c + wd (i / 225)))) := q
              exact ⟨by omega, q'⟩
            · intro q; exact q.2
          · have e : wt_wh1 wd zs kn co bo sl x.1 x.2.1 x.2.2 i y = y := by
              unfold wt_wh1
              rw [eV, eD, eC]
              exact if_neg (fun q => hq q.2.2.2)
            have hge : ¬ tI (enc (nI (a + g + A + B)) (nI (b + 1)) (nI (4 * c + wd (i / 225)))) < tI (eT y) := fun q => hq (hbt.mpr (Int64.lt_iff_toInt_lt.mpr q))
            rw [e]
            refine ⟨hy, fun z => ?_⟩
            rw [eEC z]
            exact ⟨fun q => ⟨q, by omega⟩, fun q => q.1⟩
  · exact keep (fun z _ q => absurd q hp) (if_neg (fun q => by have := q.1; unfold wt_ends at this; rw [decide_eq_false hp, Bool.and_false] at this; exact absurd this (by decide)))
theorem wh_all (hd : dt_ok mn zs wd pn ph pa ch sz en kn co bo gc gb sc sh sl) {T : Nat} (hT : T ≤ 15) {x : wt_N} (h0 : tri_all T mn zs x) :
    wok (wt_wh wd zs mn kn co bo sl x.1 x.2.1 x.2.2) ∧ ∀ z : Int, (z ≤ tI (eT (wt_wh wd zs mn kn co bo sl x.1 x.2.1 x.2.2)) ↔ z ≤ 4611686018427387904 ∧ ∀ i, i < 225 * mn → endC wd zs kn co bo sl (EN x) i z) := by
  have loop := up_le1 (v := eT) (I := wok) (C := fun i z => endC wd zs kn co bo sl (EN x) i z) (step := fun i y => wt_wh1 wd zs kn co bo sl x.1 x.2.1 x.2.2 i y) (225 * mn) 0 (-1, nI 0, nI 0) ⟨Or.inl rfl, fun _ => ⟨rfl, rfl⟩⟩ (fun i y _ hi hy => (wh_step hd hT h0 (by omega) hy).1) (fun i y _ hi hy => (wh_step hd hT h0 (by omega) hy).2)
  refine ⟨loop.1, fun z => ?_⟩
  have e : z ≤ tI (eT (wt_wh wd zs mn kn co bo sl x.1 x.2.1 x.2.2)) ↔ _ := loop.2 z
  have e2 : tI (eT (-1, nI 0, nI 0)) = 4611686018427387904 := by show tI (enc (-1) _ _) = _; rw [enc_m1, tI_dead]
  rw [e, e2]
  constructor
  · intro ⟨q1, q2⟩; exact ⟨q1, fun i hi => q2 i (by omega) (by omega)⟩
  · intro ⟨q1, q2⟩; exact ⟨q1, fun i _ hi => q2 i (by omega)⟩
theorem ep_all (gc gb : Nat → Int32) (wt : Nat → Int64) : ∀ z : Int, (z ≤ tI (wt_ep gc gb wt) ↔ z ≤ 4611686018427387904 ∧ ∀ u, 0 ≤ u → u < 0 + 5 → ∀ v, 0 ≤ v → v < 0 + 4 → z ≤ tI (wt_pc (wt (wt_cx u v)) (wt_aft gc gb u v 4))) := by
  have inner : ∀ u (w : Int64), ∀ z : Int, (z ≤ tI (wt_up (fun v x => wt_ep1 gc gb wt u v x) 4 0 w) ↔ z ≤ tI w ∧ ∀ v, 0 ≤ v → v < 0 + 4 → z ≤ tI (wt_pc (wt (wt_cx u v)) (wt_aft gc gb u v 4))) := fun u w =>
    (up_le1 (v := fun x => x) (I := fun _ => True) (C := fun v z => z ≤ tI (wt_pc (wt (wt_cx u v)) (wt_aft gc gb u v 4))) (step := fun v x => wt_ep1 gc gb wt u v x) 4 0 w trivial (fun _ _ _ _ _ => trivial) (fun v g _ _ _ z => tI_lm _ _ z)).2
  have outer := (up_le1 (v := fun x => x) (I := fun _ => True) (C := fun u z => ∀ v, 0 ≤ v → v < 0 + 4 → z ≤ tI (wt_pc (wt (wt_cx u v)) (wt_aft gc gb u v 4))) (step := fun u x => wt_up (fun v x => wt_ep1 gc gb wt u v x) 4 0 x) 5 0 wt_dead trivial (fun _ _ _ _ _ => trivial) (fun u g _ _ _ z => inner u g z)).2
  intro z
  have e : z ≤ tI (wt_ep gc gb wt) ↔ _ := outer z
  rw [e, tI_dead]
theorem path_eq (hd : dt_ok mn zs wd pn ph pa ch sz en kn co bo gc gb sc sh sl) {T : Nat} (hT : T ≤ 15) {x : wt_N} (h0 : tri_all T mn zs x) {tok wt : Nat → Int64} (hs : same mn zs pn ch tok x) (hw : waits en sz gc gb sl tok wt) : wt_ep gc gb wt = eT (wt_wh wd zs mn kn co bo sl x.1 x.2.1 x.2.2) := by
  have hwh := (wh_all hd hT h0).2
  have hd' := hd
  obtain ⟨hm, hzw, htr, hsz, hen, hgr, hsc, hsh, hsl⟩ := hd'
  apply tI_ext
  intro z
  rw [ep_all, hwh]
  constructor
  · intro ⟨q0, q⟩
    refine ⟨q0, fun i hi hp => ?_⟩
    have hk : i / 225 < mn := by omega
    have hw4 := (hzw _ hk).2
    have hz1 := (hzw _ hk).1
    have hz3 := (htr.1 _ hk).1
    have q1 := q (i % 5) (by omega) (by omega) (wd (i / 225)) (by omega) (by omega)
    obtain ⟨eB, hB⟩ := gr_aft hgr (u := i % 5) (v := wd (i / 225)) (w := 4) (by omega) (by omega) (by omega)
    rw [eB] at q1
    rcases hB with hB | ⟨B, hB, eB2⟩
    · rw [hB, tk_pc_m1, tI_dead]; exact q0
    · have hcx : wt_cx (i % 5) (wd (i / 225)) < 25 := by unfold wt_cx; omega
      rw [eB2, tk_gal (tk_b_ok (hw.1 _ hcx) (by decide)) (by omega)] at q1
      obtain ⟨g1, g2, -, -⟩ := ((htr.1 _ hk).2 (zs (i / 225) - 1) (by omega)).2
      rw [show zs (i / 225) - 1 + 1 = zs (i / 225) by omega] at g1 g2
      have q2 := ((hw.2 _ _ hcx).mp q1.2).2 (i % 25) (tr_nd ch pn (i / 225) (zs (i / 225))) (wd (i / 225)) (by omega) g1 g2 hw4 ((hen _ _ g1 g2 hw4).mpr ⟨i / 225, hk, rfl, rfl⟩) (by rw [show i % 25 % 5 = i % 5 by omega])
      have eT := hs (i / 225) (i / 25 % 9) (i % 25) hk (by omega) (by omega)
      rw [show 225 * (i / 225) + 25 * (i / 25 % 9) + i % 25 = i by omega, hp, show (3 * zs (i / 225) - 1) / 3 + 1 = zs (i / 225) by omega, show (3 * zs (i / 225) - 1) % 3 = 2 by omega] at eT
      have ez : wa_z gc gb sl tok (i % 25) (tr_nd ch pn (i / 225) (zs (i / 225))) (wd (i / 225)) = wt_pw (wt_pc (wt_pc (EN x i) (sl 2)) (wt_afN kn co bo (i / 5 % 5) (i % 5) (wd (i / 225)))) (nI (wd (i / 225))) := by
        unfold wa_z wt_lv
        rw [eT, show i % 25 / 5 = i / 5 % 5 by omega, show i % 25 % 5 = i % 5 by omega, (gr_aft hgr (u := i / 5 % 5) (v := i % 5) (w := wd (i / 225)) (by omega) (by omega) (by omega)).1]
      rw [ez] at q2
      rw [eB2, tk_gal (ends_ok hd hT h0 (by omega) hk (by omega) hp) (by omega)]
      exact ⟨q0, q2⟩
  · intro ⟨q0, q⟩
    refine ⟨q0, fun u _ hu v _ hv => ?_⟩
    obtain ⟨eB, hB⟩ := gr_aft hgr (u := u) (v := v) (w := 4) (by omega) (by omega) (by omega)
    rw [eB]
    rcases hB with hB | ⟨B, hB, eB2⟩
    · rw [hB, tk_pc_m1, tI_dead]; exact q0
    · have hcx : wt_cx u v < 25 := by unfold wt_cx; omega
      rw [eB2, tk_gal (tk_b_ok (hw.1 _ hcx) (by decide)) (by omega), hw.2 _ _ hcx]
      refine ⟨q0, by omega, fun c n w hc h1 h2 hw4 hen' hj => ?_⟩
      obtain ⟨k, hk, rfl, rfl⟩ := (hen n w h1 h2 hw4).mp hen'
      have hz1 := (hzw k hk).1
      have hz3 := (htr.1 k hk).1
      have j1 : (225 * k + 25 * (3 * zs k - 1) + c) / 225 = k := by omega
      have j2 : (225 * k + 25 * (3 * zs k - 1) + c) / 25 % 9 = 3 * zs k - 1 := by omega
      have j3 : (225 * k + 25 * (3 * zs k - 1) + c) % 5 = c % 5 := by omega
      have j4 : (225 * k + 25 * (3 * zs k - 1) + c) / 5 % 5 = c / 5 := by omega
      have jl : 225 * k + 25 * (3 * zs k - 1) + c < 225 * mn := by omega
      have g := q (225 * k + 25 * (3 * zs k - 1) + c) jl
      have ok := ends_ok hd (T := T) hT h0 (i := 225 * k + 25 * (3 * zs k - 1) + c) (by omega) (by rw [j1]; exact hk) (by rw [j1, j2]; omega) (by rw [j1, j2])
      unfold endC at g
      rw [j1, j2, j3, j4] at g
      rw [j1, j3, j4] at ok
      have g2 := g rfl
      unfold wt_cx at hj
      have eu : c % 5 = u := by omega
      have ev : wd k = v := by omega
      rw [eu, ev, eB2] at g2
      rw [eu, ev] at ok
      rw [tk_gal ok (by omega)] at g2
      have eT := hs k (3 * zs k - 1) c hk (by omega) hc
      rw [show (3 * zs k - 1) / 3 + 1 = zs k by omega, show (3 * zs k - 1) % 3 = 2 by omega] at eT
      have ez : wa_z gc gb sl tok c (tr_nd ch pn k (zs k)) (wd k) = wt_pw (wt_pc (wt_pc (EN x (225 * k + 25 * (3 * zs k - 1) + c)) (sl 2)) (wt_afN kn co bo (c / 5) (c % 5) (wd k))) (nI (wd k)) := by
        unfold wa_z wt_lv
        rw [eT, (gr_aft hgr (u := c / 5) (v := c % 5) (w := wd k) (by omega) (by omega) (by omega)).1]
      rw [ez, eu, ev]
      exact g2.2
end PATH
/-! the answers out of the token -/
theorem sh64 : ∀ k, k < 64 → (((nI k).toInt64 &&& 63).toBitVec.smod 64).toNat = k := by decide +kernel
theorem sh32 : ∀ k, k < 32 → ((nI k &&& 31).toBitVec.smod 32).toNat = k := by decide +kernel
theorem and3 (n : Nat) : nI n &&& nI 3 = nI (n % 4) := by
  have e := pk_and (nI n) (m := nI 3) 2 (by decide)
  rw [e]
  have h : (nI n).toBitVec.toNat = n % 2 ^ 32 := rfl
  rw [h]
  exact congrArg nI (by omega)
theorem ans_tc {y : Int32 × Int32 × Int32} (h : wok y) : wt_tc (eT y) = y.1 := by
  obtain ⟨y1, y2, y3⟩ := y
  rcases h.1 with e | ⟨a, b, c, e1, e2, e3, ha, hb, hc⟩
  · have e : y1 = -1 := e
    subst e
    show wt_tc (enc _ _ _) = _
    rw [enc_m1, tk_tc_dead]
  · have e1 : y1 = nI a := e1
    have e2 : y2 = nI b := e2
    have e3 : y3 = nI c := e3
    subst e1 e2 e3
    have k1 := p4_le (show b ≤ 5 by omega)
    have e5 : (4 : Nat) ^ 5 = 1024 := rfl
    show wt_tc (enc _ _ _) = _
    rw [enc_n (by omega) (by omega) (by omega), tk_tc (by omega) (by omega) (by omega)]
theorem ans_tn {y : Int32 × Int32 × Int32} (h : wok y) : wt_tn (eT y) = y.2.1 := by
  obtain ⟨y1, y2, y3⟩ := y
  rcases h.1 with e | ⟨a, b, c, e1, e2, e3, ha, hb, hc⟩
  · have h2 := (h.2 e).1
    have e : y1 = -1 := e
    have h2 : y2 = nI 0 := h2
    subst e h2
    show wt_tn (enc _ _ _) = _
    rw [enc_m1, tk_tn_dead]
  · have e1 : y1 = nI a := e1
    have e2 : y2 = nI b := e2
    have e3 : y3 = nI c := e3
    subst e1 e2 e3
    have k1 := p4_le (show b ≤ 5 by omega)
    have e5 : (4 : Nat) ^ 5 = 1024 := rfl
    show wt_tn (enc _ _ _) = _
    rw [enc_n (by omega) (by omega) (by omega), tk_tn (by omega) (by omega) (by omega)]
theorem ans_tw {y : Int32 × Int32 × Int32} (h : wok y) (i : Int32) : wt_tw (eT y) i = wt_mw y.2.1 y.2.2 i := by
  have hn := ans_tn h
  unfold wt_tw wt_mw
  rw [hn]
  by_cases hc : i < 0 ∨ y.2.1 ≤ i
  · rw [if_pos hc, if_pos (hc.imp id (fun q => Int32.not_lt.mpr q))]
  · rw [if_neg hc, if_neg (fun q => hc (q.imp id (fun z => Int32.not_lt.mp z)))]
    obtain ⟨y1, y2, y3⟩ := y
    have hi0 : ¬ i < 0 := fun q => hc (Or.inl q)
    have hi1 : ¬ y2 ≤ i := fun q => hc (Or.inr q)
    obtain ⟨j, hj, rfl⟩ := nI_of hi0
    rcases h.1 with e | ⟨a, b, c, e1, e2, e3, ha, hb, hcc⟩
    · have h2 : y2 = nI 0 := (h.2 e).1
      subst h2
      exact absurd (nI_leI (by decide) hj |>.mpr (Nat.zero_le j)) hi1
    · have e1 : y1 = nI a := e1
      have e2 : y2 = nI b := e2
      have e3 : y3 = nI c := e3
      subst e1 e2 e3
      have k1 := p4_le (show b ≤ 5 by omega)
      have e5 : (4 : Nat) ^ 5 = 1024 := rfl
      have hjb : j < b := Nat.lt_of_not_le (fun q => hi1 ((nI_leI (by omega) hj).mpr q))
      show (enc _ _ _ >>> (((nI b - nI 1 - nI j) * nI 2).toInt64 &&& 63)).toInt32 &&& nI 3 = nI c >>> ((nI 2 * (nI b - nI 1 - nI j)) &&& 31) &&& nI 3
      rw [enc_n (by omega) (by omega) (by omega), pk_sub (show 1 ≤ b by omega), pk_sub (show j ≤ b - 1 by omega), pk_mul, pk_mul]
      rw [pf_shr (d := (b - 1 - j) * 2) (sh64 _ (by omega)) (by omega), lN_i, pk_shrN (by omega) _ (2 * (b - 1 - j)) (sh32 _ (by omega)), and3, and3]
      rcases (show b - 1 - j = 0 ∨ b - 1 - j = 1 ∨ b - 1 - j = 2 ∨ b - 1 - j = 3 ∨ b - 1 - j = 4 by omega) with q | q | q | q | q <;> rw [q] <;> exact congrArg nI (by omega)
end
section
/-! a walk in the tree; a double -/
def wt_d2 (ch : Nat → Nat) (p q : Nat) : Nat := if ch (0 * 4 + p) = 0 then 0 else ch (ch (0 * 4 + p) * 4 + q)
def wt_d3 (ch : Nat → Nat) (p q r : Nat) : Nat := if wt_d2 ch p q = 0 then 0 else ch (wt_d2 ch p q * 4 + r)
theorem gr_b {ph pa ch : Nat → Nat} {sz n p : Nat} (hch : ∀ j, ch j ≤ 24) (hsz : sz + 1 ≤ 24) : (∀ j, (wt_gr ph pa ch sz n p).2.2.1 j ≤ 24) ∧ (wt_gr ph pa ch sz n p).2.2.2.1 ≤ sz + 1 ∧ (wt_gr ph pa ch sz n p).2.2.2.2 ≤ 24 := by
  by_cases h : ch (n * 4 + p) = 0
  · have e : wt_gr ph pa ch sz n p = _ := if_pos h
    rw [e]
    refine ⟨fun j => ?_, Nat.le_refl _, hsz⟩
    show va_up ch (n * 4 + p) (sz + 1) j ≤ 24
    unfold va_up
    split
    · exact hsz
    · exact hch j
  · have e : wt_gr ph pa ch sz n p = _ := if_neg h
    rw [e]
    exact ⟨hch, Nat.le_succ sz, hch _⟩
def wt_du1 (wd zs : Nat → Nat) (fp : Nat → Int32) (mn w k : Nat) : Bool := decide (wd k = w) && (decide (zs k = zs mn) && wt_beg zs fp k mn (zs k))
end
section
/-! how class and reference stand to each other between calls -/
def rel (ph pa ch : Nat → Nat) (en : Nat → Bool) (sz : Nat) (gc gb sc sh sl : Nat → Int32) (ct : Nat) (kn : Nat → Bool) (co bo : Nat → Int32) (mn : Nat) (wd zs : Nat → Nat) (fp : Nat → Int32) (pg : Nat → Nat) : Prop :=
  dt_ok mn zs wd pg ph pa ch sz en kn co bo gc gb sc sh sl ∧ ct ≤ 15 ∧ sz ≤ 3 * mn ∧ tr_sum mn zs pg ch sz ∧ (∀ k, zs k ≤ 3) ∧ (∀ k, wd k < 4) ∧ (∀ n, ph n < 4) ∧ (∀ n, pa n < 25) ∧ (∀ j, ch j ≤ 24) ∧ (∀ k i, k < mn → i < zs k → fp (3 * k + i) = nI (pg (3 * k + i)) ∧ pg (3 * k + i) < 4) ∧ (∀ n w, sz < n → w < 4 → en (n * 4 + w) = false)
def cache (ph pa : Nat → Nat) (en : Nat → Bool) (sz : Nat) (gc gb sc sh sl : Nat → Int32) (ct : Nat) (pn : Nat → Nat) (lt : Nat → Int64) (wp : Int64) : Prop :=
  (∀ n, 1 ≤ n → n ≤ ct → pn n = (wt_ms (cs ph pa en sz gc gb sc sh sl n).1).1 ∧ lt n = (wt_ms (cs ph pa en sz gc gb sc sh sl n).1).2) ∧ wp = wt_ep gc gb (cs ph pa en sz gc gb sc sh sl ct).2
section REL
variable {ph pa ch : Nat → Nat} {en : Nat → Bool} {sz : Nat} {gc gb sc sh sl : Nat → Int32} {ct : Nat} {kn : Nat → Bool} {co bo : Nat → Int32} {mn : Nat} {wd zs : Nat → Nat} {fp : Nat → Int32} {pg : Nat → Nat} {pn : Nat → Nat} {lt : Nat → Int64} {wp : Int64} {sd : Bool} {tok wt : Nat → Int64}
/-- behind a search: what is kept is right -/
theorem cache_run (h : sd = true → cache ph pa en sz gc gb sc sh sl ct pn lt wp) : cache ph pa en sz gc gb sc sh sl ct (if sd = true then pn else (wt_run ph pa en sz gc gb sc sh sl ct pn lt).2.2.1) (if sd = true then lt else (wt_run ph pa en sz gc gb sc sh sl ct pn lt).2.2.2) (if sd = true then wp else wt_ep gc gb (wt_run ph pa en sz gc gb sc sh sl ct pn lt).2.1) := by
  by_cases hs : sd = true
  · rw [if_pos hs, if_pos hs, if_pos hs]; exact h hs
  · rw [if_neg hs, if_neg hs, if_neg hs]
    obtain ⟨-, r2, r3⟩ := run_cs ph pa en sz gc gb sc sh sl pn lt ct
    exact ⟨r3, by rw [r2]⟩
theorem whole_eq (h : rel ph pa ch en sz gc gb sc sh sl ct kn co bo mn wd zs fp pg) (nd nc : Nat → Int32) :
    wt_ep gc gb (cs ph pa en sz gc gb sc sh sl ct).2 = eT (wt_wh wd zs mn kn co bo sl (wt_mrun pg wd zs mn kn co bo sh sl sc ct nd nc).1 (wt_mrun pg wd zs mn kn co bo sh sl sc ct nd nc).2.1 (wt_mrun pg wd zs mn kn co bo sh sl sc ct nd nc).2.2) ∧ wok (wt_wh wd zs mn kn co bo sl (wt_mrun pg wd zs mn kn co bo sh sl sc ct nd nc).1 (wt_mrun pg wd zs mn kn co bo sh sl sc ct nd nc).2.1 (wt_mrun pg wd zs mn kn co bo sh sl sc ct nd nc).2.2) := by
  obtain ⟨hd, hct, -⟩ := h
  rw [mrun_mx]
  cases ct with
  | zero =>
    have t0 : tri_all 0 mn zs (mx pg wd zs mn kn co bo sh sl sc nd nc 0) := fun j _ => ⟨Or.inl rfl, Or.inl rfl⟩
    obtain ⟨w1, w2⟩ := wh_all hd (T := 0) (by omega) t0
    refine ⟨?_, w1⟩
    apply tI_ext
    intro z
    rw [ep_all, w2]
    constructor
    · intro ⟨q0, q⟩
      refine ⟨q0, fun i _ _ => ?_⟩
      have e : EN (mx pg wd zs mn kn co bo sh sl sc nd nc 0) i = wt_dead := by show enc (-1) _ _ = _; rw [enc_m1]
      rw [e, tk_pc_dead, tk_pc_dead, tk_pw_dead, tk_pc_dead, tI_dead]; exact q0
    · intro ⟨q0, q⟩
      refine ⟨q0, fun u _ hu v _ hv => ?_⟩
      have e : (cs ph pa en sz gc gb sc sh sl 0).2 (wt_cx u v) = wt_dead := by
        show vp_updL (fun _ => wt_dead) (wt_cx 4 4) 0 (wt_cx u v) = wt_dead
        exact pk_uLn (fun q => by unfold wt_cx at q; omega)
      rw [e, tk_pc_dead, tI_dead]; exact q0
  | succ n =>
    obtain ⟨h1, h2, h3⟩ := frames_rel hd nd nc n hct
    exact ⟨path_eq hd hct h1 h2 h3, (wh_all hd hct h1).1⟩
theorem live_q (h : rel ph pa ch en sz gc gb sc sh sl ct kn co bo mn wd zs fp pg) {n : Nat} (h1 : 1 ≤ n) (h2 : n ≤ ct) (nd nc : Nat → Int32) : (wt_ms (cs ph pa en sz gc gb sc sh sl n).1).1 = wt_live zs mn fp (wt_mrun pg wd zs mn kn co bo sh sl sc n nd nc).1 := by
  obtain ⟨hd, hct, -, hts, -, -, -, -, -, hfp, -⟩ := h
  have hd' := hd
  obtain ⟨hm, -, htr, hsz, -⟩ := hd'
  rw [mrun_mx]
  obtain ⟨m, rfl⟩ : ∃ m, n = m + 1 := ⟨n - 1, by omega⟩
  obtain ⟨g1, g2, -⟩ := frames_rel hd nd nc m (by omega)
  exact live_eq htr hsz hts hfp hm (T := m + 1) (by omega) g1 g2 (off_cs hsz (fun n h1 h2 => (htr.2.1 n h1 h2).1) (m + 1))
theorem best_q (h : rel ph pa ch en sz gc gb sc sh sl ct kn co bo mn wd zs fp pg) {n : Nat} (h1 : 1 ≤ n) (h2 : n ≤ ct) (nd nc : Nat → Int32) : wt_tc (wt_ms (cs ph pa en sz gc gb sc sh sl n).1).2 = wt_best (wt_mrun pg wd zs mn kn co bo sh sl sc n nd nc).1 := by
  obtain ⟨hd, hct, -⟩ := h
  have hd' := hd
  obtain ⟨hm, -, htr, hsz, -⟩ := hd'
  rw [mrun_mx]
  obtain ⟨m, rfl⟩ : ∃ m, n = m + 1 := ⟨n - 1, by omega⟩
  obtain ⟨g1, g2, -⟩ := frames_rel hd nd nc m (by omega)
  exact best_eq htr hsz hm (T := m + 1) (by omega) g1 g2 (off_cs hsz (fun n h1 h2 => (htr.2.1 n h1 h2).1) (m + 1))
/-- the reference's nodes -/
theorem nod_eq {M : Nat} (hts : tr_sum M zs pg ch sz) (hfp : ∀ k i, k < M → i < zs k → fp (3 * k + i) = nI (pg (3 * k + i)) ∧ pg (3 * k + i) < 4) : wt_nod zs fp M = sz := by
  have s1 : ∀ n : Nat, sm (fun _ => 1) n = n := by
    intro n
    induction n with
    | zero => rfl
    | succ n ih => show sm (fun _ => 1) n + 1 = n + 1; rw [ih]
  have e := hts (fun _ => 1)
  rw [s1] at e
  rw [← e]
  have i1 : ∀ k n, wt_up (fun i n => if wt_fre zs fp k i = true then n + 1 else n) (zs k) 1 n = n + sm (fun i => if wt_fre zs fp k (1 + i) = true then 1 else 0) (zs k) := by
    intro k n
    rw [← up_sum (fun i => if wt_fre zs fp k i = true then 1 else 0)]
    apply up_congr
    intro j y _ _
    split
    · rfl
    · rfl
  have i2 : wt_nod zs fp M = wt_up (fun k n => n + sm (fun i => if wt_fre zs fp k (1 + i) = true then 1 else 0) (zs k)) M 0 0 := by
    unfold wt_nod
    apply up_congr
    intro j y _ _
    exact i1 j y
  rw [i2, up_sum, Nat.zero_add]
  apply sm_congr
  intro k hk
  rw [Nat.zero_add]
  apply sm_congr
  intro i hi
  have ef : wt_fre zs (fun j => nI (pg j)) k (i + 1) = wt_fre zs fp k (1 + i) := by
    rw [Nat.add_comm 1 i]
    apply fre_congr
    intro j hj
    constructor
    · intro ⟨q1, q2, q3⟩
      exact ⟨q1, q2, fun a ha => by rw [(hfp j a (by omega) (by omega)).1, (hfp k a hk (by omega)).1]; exact q3 a ha⟩
    · intro ⟨q1, q2, q3⟩
      exact ⟨q1, q2, fun a ha => by have := q3 a ha; rw [(hfp j a (by omega) (by omega)).1, (hfp k a hk (by omega)).1] at this; exact this⟩
  rw [ef]
/-- fewer frames, or one more; costs set -/
theorem rel_ct (h : rel ph pa ch en sz gc gb sc sh sl ct kn co bo mn wd zs fp pg) {c' : Nat} (hc : c' ≤ 15) : rel ph pa ch en sz gc gb sc sh sl c' kn co bo mn wd zs fp pg := ⟨h.1, hc, h.2.2⟩
theorem rng_of {x : Int32} (h : ¬ wt_rng x 10000 = 0) : ∃ a : Nat, a < 10000 ∧ x = nI a := wt_rng_of (by decide) h
theorem rel_sc (h : rel ph pa ch en sz gc gb sc sh sl ct kn co bo mn wd zs fp pg) {f : Nat → Int32} (hf : ∀ j, j < 180 → ∃ a : Nat, a < 10000 ∧ f j = nI a) : rel ph pa ch en sz gc gb f sh sl ct kn co bo mn wd zs fp pg := by
  obtain ⟨⟨a1, a2, a3, a4, a5, a6, -, a8, a9⟩, rest⟩ := h
  exact ⟨⟨a1, a2, a3, a4, a5, a6, hf, a8, a9⟩, rest⟩
theorem rel_hl (h : rel ph pa ch en sz gc gb sc sh sl ct kn co bo mn wd zs fp pg) {s : Nat} {x y : Int32} (hx : ¬ wt_rng x 10000 = 0) (hy : ¬ wt_rng y 10000 = 0) : rel ph pa ch en sz gc gb sc (upd sh s x) (upd sl s y) ct kn co bo mn wd zs fp pg := by
  obtain ⟨⟨a1, a2, a3, a4, a5, a6, a7, a8, a9⟩, rest⟩ := h
  refine ⟨⟨a1, a2, a3, a4, a5, a6, a7, fun j hj => ?_, fun j hj => ?_⟩, rest⟩
  · by_cases q : j = s
    · rw [q, pk_us]; exact rng_of hx
    · rw [pk_un q]; exact a8 j hj
  · by_cases q : j = s
    · rw [q, pk_us]; exact rng_of hy
    · rw [pk_un q]; exact a9 j hj
theorem upd_rng {f : Nat → Int32} {N k : Nat} {x : Int32} (hf : ∀ j, j < N → ∃ a : Nat, a < 10000 ∧ f j = nI a) (hx : ∃ a : Nat, a < 10000 ∧ x = nI a) : ∀ j, j < N → ∃ a : Nat, a < 10000 ∧ upd f k x j = nI a := by
  intro j hj
  by_cases q : j = k
  · rw [q, pk_us]; exact hx
  · rw [pk_un q]; exact hf j hj
theorem z12_rng {k N : Nat} : ∀ (r i : Nat) (f : Nat → Int32), (∀ j, j < N → ∃ a : Nat, a < 10000 ∧ f j = nI a) → ∀ j, j < N → ∃ a : Nat, a < 10000 ∧ wt_up (fun i f => upd f (k + i) (nI 0)) r i f j = nI a
  | 0, _, _, h => h
  | r + 1, i, f, h => z12_rng r (i + 1) (upd f (k + i) (nI 0)) (upd_rng h ⟨0, by omega, rfl⟩)
/-! grams: two places of one gram -/
def gpl (f : Nat) (u v w : Nat) : Nat × Nat := if f = 1 then (w, wt_sl 0 0 (w + 1)) else if f = 2 then (5 + 5 * v + w, wt_sl 0 (v + 1) (w + 1)) else (30 + 25 * u + 5 * v + w, wt_sl (u + 1) (v + 1) (w + 1))
def gfo (f u v w : Nat) : Prop := (f = 1 ∧ w < 5) ∨ (f = 2 ∧ v < 5 ∧ w < 5) ∨ (f = 3 ∧ u < 5 ∧ v < 4 ∧ w < 5)
theorem gpl_one {f u v w f' u' v' w' : Nat} (h : gfo f u v w) (h' : gfo f' u' v' w') : ((gpl f u v w).1 = (gpl f' u' v' w').1 ↔ (gpl f u v w).2 = (gpl f' u' v' w').2) := by
  rcases h with ⟨rfl, h⟩ | ⟨rfl, h1, h2⟩ | ⟨rfl, h1, h2, h3⟩ <;> rcases h' with ⟨rfl, g⟩ | ⟨rfl, g1, g2⟩ | ⟨rfl, g1, g2, g3⟩ <;> simp only [gpl, wt_sl] <;> constructor <;> intro q <;> simp at q ⊢ <;> omega
theorem gr_all : gr_rel kn co bo gc gb ↔ ∀ f u v w, gfo f u v w → gr_at kn co bo gc gb (gpl f u v w).1 (gpl f u v w).2 := by
  constructor
  · intro ⟨h1, h2, h3⟩ f u v w hf
    rcases hf with ⟨rfl, h⟩ | ⟨rfl, g1, g2⟩ | ⟨rfl, g1, g2, g3⟩
    · exact h1 w h
    · exact h2 v w g1 g2
    · exact h3 u v w g1 g2 g3
  · intro h
    exact ⟨fun w hw => h 1 0 0 w (Or.inl ⟨rfl, hw⟩), fun v w hv hw => h 2 0 v w (Or.inr (Or.inl ⟨rfl, hv, hw⟩)), fun u v w hu hv hw => h 3 u v w (Or.inr (Or.inr ⟨rfl, hu, hv, hw⟩))⟩
theorem gr_set (h : gr_rel kn co bo gc gb) {f u v w : Nat} (hf : gfo f u v w) {x y : Int32} (hx : ¬ wt_rng x 10000 = 0) (hy : ¬ wt_rng y 10000 = 0) : gr_rel (va_up kn (gpl f u v w).1 true) (upd co (gpl f u v w).1 x) (upd bo (gpl f u v w).1 y) (upd gc (gpl f u v w).2 x) (upd gb (gpl f u v w).2 y) := by
  rw [gr_all] at h ⊢
  intro f' u' v' w' hf'
  have one := gpl_one hf' hf
  by_cases q : (gpl f' u' v' w').1 = (gpl f u v w).1
  · have q2 := one.mp q
    unfold gr_at
    rw [q, q2, va_up_self, pk_us, pk_us, pk_us, pk_us, if_pos rfl, if_pos rfl]
    obtain ⟨a, ha, ea⟩ := rng_of hx
    obtain ⟨b, hb, eb⟩ := rng_of hy
    exact ⟨rfl, rfl, fun _ => ⟨a, b, ha, hb, ea, eb⟩⟩
  · have q2 : ¬ (gpl f' u' v' w').2 = (gpl f u v w).2 := fun z => q (one.mpr z)
    unfold gr_at
    rw [va_up_ne kn true q, pk_un q, pk_un q, pk_un q2, pk_un q2]
    exact h f' u' v' w' hf'
theorem gr_del (h : gr_rel kn co bo gc gb) {f u v w : Nat} (hf : gfo f u v w) : gr_rel (va_up kn (gpl f u v w).1 false) co bo (upd gc (gpl f u v w).2 (-1)) (upd gb (gpl f u v w).2 (nI 0)) := by
  rw [gr_all] at h ⊢
  intro f' u' v' w' hf'
  have one := gpl_one hf' hf
  by_cases q : (gpl f' u' v' w').1 = (gpl f u v w).1
  · have q2 := one.mp q
    unfold gr_at
    rw [q, q2, va_up_self, pk_us, pk_us, if_neg (by decide), if_neg (by decide)]
    exact ⟨rfl, rfl, fun z => absurd z (by decide)⟩
  · have q2 : ¬ (gpl f' u' v' w').2 = (gpl f u v w).2 := fun z => q (one.mpr z)
    unfold gr_at
    rw [va_up_ne kn false q, pk_un q2, pk_un q2]
    exact h f' u' v' w' hf'
theorem rel_gr (h : rel ph pa ch en sz gc gb sc sh sl ct kn co bo mn wd zs fp pg) {kn' : Nat → Bool} {co' bo' gc' gb' : Nat → Int32} (hg : gr_rel kn' co' bo' gc' gb') : rel ph pa ch en sz gc' gb' sc sh sl ct kn' co' bo' mn wd zs fp pg := by
  obtain ⟨⟨a1, a2, a3, a4, a5, -, a7, a8, a9⟩, rest⟩ := h
  exact ⟨⟨a1, a2, a3, a4, a5, hg, a7, a8, a9⟩, rest⟩
end REL
end
section
/-! say: a pronunciation more -/
/-- the phones with those of the new one -/
def pg3 (pg : Nat → Nat) (mn p q r : Nat) : Nat → Nat := va_up (va_up (va_up pg (3 * mn) p) (3 * mn + 1) q) (3 * mn + 2) r
theorem pg3_old {pg : Nat → Nat} {mn p q r j : Nat} (h : j < 3 * mn) : pg3 pg mn p q r j = pg j := by
  unfold pg3; rw [va_up_ne _ _ (by omega), va_up_ne _ _ (by omega), va_up_ne _ _ (by omega)]
theorem pg3_0 {pg : Nat → Nat} {mn p q r : Nat} : pg3 pg mn p q r (3 * mn + 0) = p := by
  unfold pg3; rw [va_up_ne _ _ (by omega), va_up_ne _ _ (by omega)]; exact va_up_self _ _ _
theorem pg3_1 {pg : Nat → Nat} {mn p q r : Nat} : pg3 pg mn p q r (3 * mn + 1) = q := by
  unfold pg3; rw [va_up_ne _ _ (by omega)]; exact va_up_self _ _ _
theorem pg3_2 {pg : Nat → Nat} {mn p q r : Nat} : pg3 pg mn p q r (3 * mn + 2) = r := va_up_self _ _ _
section SAY
variable {ph pa ch : Nat → Nat} {en : Nat → Bool} {sz : Nat} {gc gb sc sh sl : Nat → Int32} {ct : Nat} {kn : Nat → Bool} {co bo : Nat → Int32} {mn : Nat} {wd zs : Nat → Nat} {fp : Nat → Int32} {pg : Nat → Nat}
theorem nd_old (hz : ∀ k, zs k ≤ 3) {p q r k : Nat} (hk : k < mn) : ∀ i, i ≤ zs k → tr_nd ch (pg3 pg mn p q r) k i = tr_nd ch pg k i := fun i hi => tr_same i (fun a ha => pg3_old (by have := hz k; omega))
/-- an empty path more -/
theorem tr_start (h : tr_ok mn zs pg ph pa ch sz) (hz : ∀ k, zs k ≤ 3) (p q r : Nat) : tr_ok (mn + 1) (va_up zs mn 0) (pg3 pg mn p q r) ph pa ch sz := by
  have zk : ∀ k, k < mn → va_up zs mn 0 k = zs k := fun k hk => va_up_ne zs 0 (by omega)
  refine ⟨fun k hk => ?_, fun n h1 h2 => ?_, h.2.2⟩
  · by_cases hkm : k = mn
    · subst hkm
      rw [va_up_self]
      exact ⟨by omega, fun i hi => absurd hi (by omega)⟩
    · have hk' : k < mn := by omega
      rw [zk k hk']
      refine ⟨(h.1 k hk').1, fun i hi => ?_⟩
      rw [nd_old hz hk' (i + 1) hi, nd_old hz hk' i (by omega), pg3_old (by have := hz k; omega)]
      exact (h.1 k hk').2 i hi
  · obtain ⟨q1, q2, k, i, hk, hi, e⟩ := h.2.1 n h1 h2
    exact ⟨q1, q2, k, i, by omega, by rw [zk k hk]; exact hi, by rw [nd_old hz hk (i + 1) hi]; exact e⟩
theorem sum_start (h : tr_sum mn zs pg ch sz) (hz : ∀ k, zs k ≤ 3) (p q r : Nat) : tr_sum (mn + 1) (va_up zs mn 0) (pg3 pg mn p q r) ch sz := by
  have zk : ∀ k, k < mn → va_up zs mn 0 k = zs k := fun k hk => va_up_ne zs 0 (by omega)
  intro f
  rw [← h f]
  show sm _ mn + sm _ (va_up zs mn 0 mn) = _
  rw [va_up_self]
  show sm _ mn + 0 = _
  rw [Nat.add_zero]
  apply sm_congr
  intro k hk
  rw [zk k hk]
  apply sm_congr
  intro i hi
  rw [nd_old hz hk (i + 1) hi]
  have e : wt_fre (va_up zs mn 0) (fun j => nI (pg3 pg mn p q r j)) k (i + 1) = wt_fre zs (fun j => nI (pg j)) k (i + 1) := by
    apply fre_congr
    intro j hj
    rw [zk j (by omega), zk k hk]
    constructor
    · intro ⟨q1, q2, q3⟩
      refine ⟨q1, q2, fun a ha => ?_⟩
      have := q3 a ha
      rw [pg3_old (by have := hz j; omega), pg3_old (by have := hz k; omega)] at this
      exact this
    · intro ⟨q1, q2, q3⟩
      refine ⟨q1, q2, fun a ha => ?_⟩
      rw [pg3_old (by have := hz j; omega), pg3_old (by have := hz k; omega)]
      exact q3 a ha
  rw [e]
theorem gr_ph {ph pa ch : Nat → Nat} {sz n p : Nat} (h : ∀ j, ph j < 4) (hp : p < 4) : ∀ j, (wt_gr ph pa ch sz n p).1 j < 4 := by
  intro j
  unfold wt_gr
  split
  · show va_up ph (sz + 1) p j < 4
    unfold va_up
    split
    · exact hp
    · exact h j
  · exact h j
theorem gr_pa {ph pa ch : Nat → Nat} {sz n p : Nat} (h : ∀ j, pa j < 25) (hn : n < 25) : ∀ j, (wt_gr ph pa ch sz n p).2.1 j < 25 := by
  intro j
  unfold wt_gr
  split
  · show va_up pa (sz + 1) n j < 25
    unfold va_up
    split
    · exact hn
    · exact h j
  · exact h j
/-- the tree grown by a path of one, two or three phones: everything of it -/
def grown (mn L w : Nat) (wd zs : Nat → Nat) (pg' : Nat → Nat) (ph pa ch : Nat → Nat) (sz : Nat) (ph' pa' ch' : Nat → Nat) (sz' n' : Nat) : Prop :=
  tr_ok (mn + 1) (va_up zs mn L) pg' ph' pa' ch' sz' ∧ tr_sum (mn + 1) (va_up zs mn L) pg' ch' sz' ∧ n' = tr_nd ch' pg' mn L ∧ (∀ k i, k < mn → i ≤ zs k → tr_nd ch' pg' k i = tr_nd ch pg' k i) ∧ sz ≤ sz' ∧ sz' ≤ sz + L ∧ (∀ j, ph' j < 4) ∧ (∀ j, pa' j < 25) ∧ (∀ j, ch' j ≤ 24)
theorem gr_szle {ph pa ch : Nat → Nat} {sz n p : Nat} : sz ≤ (wt_gr ph pa ch sz n p).2.2.2.1 ∧ (wt_gr ph pa ch sz n p).2.2.2.1 ≤ sz + 1 := by
  unfold wt_gr
  split
  · exact ⟨Nat.le_succ sz, Nat.le_refl _⟩
  · exact ⟨Nat.le_refl _, Nat.le_succ sz⟩
theorem grow_step {L w : Nat} {pg' ph pa ch ph1 pa1 ch1 : Nat → Nat} {sz sz1 n1 p : Nat} (h : grown mn L w wd zs pg' ph pa ch sz ph1 pa1 ch1 sz1 n1) (hL : L < 3) (hp : p < 4) (hpn : pg' (3 * mn + L) = p) (hs : sz1 + 1 ≤ 24) :
    grown mn (L + 1) w wd zs pg' ph pa ch sz (wt_gr ph1 pa1 ch1 sz1 n1 p).1 (wt_gr ph1 pa1 ch1 sz1 n1 p).2.1 (wt_gr ph1 pa1 ch1 sz1 n1 p).2.2.1 (wt_gr ph1 pa1 ch1 sz1 n1 p).2.2.2.1 (wt_gr ph1 pa1 ch1 sz1 n1 p).2.2.2.2 := by
  obtain ⟨h1, h2, rfl, h4, h5, h6, h7, h8, h9⟩ := h
  have zL : va_up zs mn L mn = L := va_up_self zs mn L
  obtain ⟨g1, g2, g3⟩ := tr_grow h1 zL hL hp hpn
  have g4 := tr_grow_sum h1 h2 zL hL hp hpn
  rw [bx_uu] at g1 g4
  have hn : tr_nd ch1 pg' mn L ≤ sz1 := tr_le h1 (by omega) (by rw [zL]; omega)
  obtain ⟨z1, z2⟩ := gr_szle (ph := ph1) (pa := pa1) (ch := ch1) (sz := sz1) (n := tr_nd ch1 pg' mn L) (p := p)
  refine ⟨g1, g4, g2, fun k i hk hi => ?_, by omega, by omega, gr_ph h7 hp, gr_pa h8 (by omega), (gr_b h9 hs).1⟩
  rw [g3 k i (by omega) (by rw [va_up_ne zs L (by omega)]; exact hi)]
  exact h4 k i hk hi
theorem grow_0 (h : rel ph pa ch en sz gc gb sc sh sl ct kn co bo mn wd zs fp pg) (p q r w : Nat) : grown mn 0 w wd zs (pg3 pg mn p q r) ph pa ch sz ph pa ch sz 0 := by
  obtain ⟨⟨-, -, htr, -⟩, -, -, hts, hz, -, hph, hpa, hch, -⟩ := h
  exact ⟨tr_start htr hz p q r, sum_start hts hz p q r, rfl, fun _ _ _ _ => rfl, Nat.le_refl _, Nat.le_refl _, hph, hpa, hch⟩
/-- what holds behind an added pronunciation -/
theorem rel_add (h : rel ph pa ch en sz gc gb sc sh sl ct kn co bo mn wd zs fp pg) {L w p q r : Nat} (hmn : mn ≤ 7) (hL : 1 ≤ L ∧ L ≤ 3) (hw : w < 4) {ph' pa' ch' : Nat → Nat} {sz' n' : Nat} (hg : grown mn L w wd zs (pg3 pg mn p q r) ph pa ch sz ph' pa' ch' sz' n') {fp' : Nat → Int32} (hf0 : ∀ j, j < 3 * mn → fp' j = fp j) (hfn : ∀ i, i < L → fp' (3 * mn + i) = nI (pg3 pg mn p q r (3 * mn + i)) ∧ pg3 pg mn p q r (3 * mn + i) < 4) :
    rel ph' pa' ch' (va_up en (n' * 4 + w) true) sz' gc gb sc sh sl ct kn co bo (mn + 1) (va_up wd mn w) (va_up zs mn L) fp' (pg3 pg mn p q r) := by
  obtain ⟨⟨a1, a2, a3, a4, a5, a6, a7, a8, a9⟩, hct, hs3, hts, hz, hwd, hph, hpa, hch, hfp, hen0⟩ := h
  obtain ⟨g1, g2, g3, g4, g5, g6, g7, g8, g9⟩ := hg
  have zk : ∀ k, k < mn → va_up zs mn L k = zs k := fun k hk => va_up_ne zs L (by omega)
  have wk : ∀ k, k < mn → va_up wd mn w k = wd k := fun k hk => va_up_ne wd w (by omega)
  have zm : va_up zs mn L mn = L := va_up_self zs mn L
  have wm : va_up wd mn w mn = w := va_up_self wd mn w
  have hn' : 1 ≤ n' ∧ n' ≤ sz' := by
    have := (g1.1 mn (by omega)).2 (L - 1) (by rw [zm]; omega)
    rw [show L - 1 + 1 = L by omega, ← g3] at this
    exact ⟨this.2.1, this.2.2.1⟩
  refine ⟨⟨by omega, fun k hk => ?_, g1, by omega, fun n w' h1 h2 hw' => ?_, a6, a7, a8, a9⟩, hct, by omega, g2, fun k => ?_, fun k => ?_, g7, g8, g9, fun k i hk hi => ?_, fun n w' hn hw' => ?_⟩
  · by_cases hkm : k = mn
    · subst hkm; rw [zm, wm]; exact ⟨hL.1, hw⟩
    · rw [zk k (by omega), wk k (by omega)]; exact a2 k (by omega)
  · by_cases hc : n * 4 + w' = n' * 4 + w
    · have e1 : n = n' := by omega
      have e2 : w' = w := by omega
      subst e1 e2
      rw [va_up_self]
      exact ⟨fun _ => ⟨mn, by omega, wm, by rw [zm]; exact g3.symm⟩, fun _ => rfl⟩
    · rw [va_up_ne en true hc]
      have old : (∃ k, k < mn + 1 ∧ va_up wd mn w k = w' ∧ tr_nd ch' (pg3 pg mn p q r) k (va_up zs mn L k) = n) ↔ ∃ k, k < mn ∧ wd k = w' ∧ tr_nd ch pg k (zs k) = n := by
        constructor
        · intro ⟨k, hk, q1, q2⟩
          by_cases hkm : k = mn
          · subst hkm
            rw [wm] at q1
            rw [zm, ← g3] at q2
            exact absurd (by rw [q1, q2]) hc
          · have hk' : k < mn := by omega
            rw [wk k hk'] at q1
            rw [zk k hk', g4 k (zs k) hk' (Nat.le_refl _), nd_old hz hk' (zs k) (Nat.le_refl _)] at q2
            exact ⟨k, hk', q1, q2⟩
        · intro ⟨k, hk, q1, q2⟩
          exact ⟨k, by omega, by rw [wk k hk]; exact q1, by rw [zk k hk, g4 k (zs k) hk (Nat.le_refl _), nd_old hz hk (zs k) (Nat.le_refl _)]; exact q2⟩
      rw [old]
      by_cases hns : n ≤ sz
      · exact a5 n w' h1 hns hw'
      · rw [hen0 n w' (by omega) hw']
        constructor
        · intro z; exact absurd z (by decide)
        · intro ⟨k, hk, _, q2⟩
          have := tr_le a3 hk (Nat.le_refl (zs k))
          omega
  · unfold va_up
    split
    · exact hL.2
    · exact hz k
  · unfold va_up
    split
    · exact hw
    · exact hwd k
  · by_cases hkm : k = mn
    · subst hkm
      rw [zm] at hi
      exact hfn i hi
    · have hk' : k < mn := by omega
      rw [zk k hk'] at hi
      have := hz k
      rw [hf0 _ (by omega), pg3_old (by omega)]
      exact hfp k i hk' hi
  · rw [va_up_ne en true (by omega)]
    exact hen0 n w' (by omega) hw'
/-- a refused double: what the reference has written lies behind its list -/
theorem rel_dup (h : rel ph pa ch en sz gc gb sc sh sl ct kn co bo mn wd zs fp pg) {L w : Nat} (hL : L ≤ 3) (hw : w < 4) {fp' : Nat → Int32} (hf0 : ∀ j, j < 3 * mn → fp' j = fp j) : rel ph pa ch en sz gc gb sc sh sl ct kn co bo mn (va_up wd mn w) (va_up zs mn L) fp' pg := by
  obtain ⟨⟨a1, a2, a3, a4, a5, a6, a7, a8, a9⟩, hct, hs3, hts, hz, hwd, hph, hpa, hch, hfp, hen0⟩ := h
  have zk : ∀ k, k < mn → va_up zs mn L k = zs k := fun k hk => va_up_ne zs L (by omega)
  have wk : ∀ k, k < mn → va_up wd mn w k = wd k := fun k hk => va_up_ne wd w (by omega)
  refine ⟨⟨a1, fun k hk => by rw [zk k hk, wk k hk]; exact a2 k hk, ⟨fun k hk => by rw [zk k hk]; exact a3.1 k hk, fun n h1 h2 => ?_, a3.2.2⟩, a4, fun n w' h1 h2 hw' => ?_, a6, a7, a8, a9⟩, hct, hs3, fun f => ?_, fun k => ?_, fun k => ?_, hph, hpa, hch, fun k i hk hi => ?_, hen0⟩
  · obtain ⟨q1, q2, k, i, hk, hi, e⟩ := a3.2.1 n h1 h2
    exact ⟨q1, q2, k, i, hk, by rw [zk k hk]; exact hi, e⟩
  · rw [a5 n w' h1 h2 hw']
    constructor
    · intro ⟨k, hk, q1, q2⟩; exact ⟨k, hk, by rw [wk k hk]; exact q1, by rw [zk k hk]; exact q2⟩
    · intro ⟨k, hk, q1, q2⟩; rw [wk k hk] at q1; rw [zk k hk] at q2; exact ⟨k, hk, q1, q2⟩
  · rw [← hts f]
    apply sm_congr
    intro k hk
    rw [zk k hk]
    apply sm_congr
    intro i hi
    have e : wt_fre (va_up zs mn L) (fun j => nI (pg j)) k (i + 1) = wt_fre zs (fun j => nI (pg j)) k (i + 1) := by
      apply fre_congr
      intro j hj
      rw [zk j (by omega), zk k hk]
    rw [e]
  · unfold va_up
    split
    · exact hL
    · exact hz k
  · unfold va_up
    split
    · exact hw
    · exact hwd k
  · rw [zk k hk] at hi
    have := hz k
    rw [hf0 _ (by omega)]
    exact hfp k i hk hi
theorem any_iff (f : Nat → Bool) : ∀ (r i : Nat), wt_any f r i = true ↔ ∃ k, i ≤ k ∧ k < i + r ∧ f k = true
  | 0, i => ⟨fun h => absurd (show false = true from h) (by decide), fun ⟨k, h1, h2, _⟩ => absurd h2 (by omega)⟩
  | r + 1, i => by
    show (f i || wt_any f r (i + 1)) = true ↔ _
    rw [Bool.or_eq_true, any_iff f r (i + 1)]
    constructor
    · intro h
      rcases h with h | ⟨k, h1, h2, h3⟩
      · exact ⟨i, Nat.le_refl i, by omega, h⟩
      · exact ⟨k, by omega, by omega, h3⟩
    · intro ⟨k, h1, h2, h3⟩
      by_cases q : k = i
      · subst q; exact Or.inl h3
      · exact Or.inr ⟨k, by omega, by omega, h3⟩
/-- the class has it just where the reference has it -/
theorem has_dup (h : rel ph pa ch en sz gc gb sc sh sl ct kn co bo mn wd zs fp pg) {L w p q r : Nat} (hL : 1 ≤ L ∧ L ≤ 3) (hw : w < 4) {d : Nat} (hd : d ≠ 0 → grown mn L w wd zs (pg3 pg mn p q r) ph pa ch sz ph pa ch sz d) (hd2 : ∀ k, k < mn → zs k = L → (∀ a, a < L → pg (3 * k + a) = pg3 pg mn p q r (3 * mn + a)) → d = tr_nd ch pg k L)
    {fp' : Nat → Int32} (hf0 : ∀ j, j < 3 * mn → fp' j = fp j) (hfn : ∀ i, i < L → fp' (3 * mn + i) = nI (pg3 pg mn p q r (3 * mn + i)) ∧ pg3 pg mn p q r (3 * mn + i) < 4) :
    (decide (¬ d = 0) && en (d * 4 + w)) = wt_any (fun k => wt_du1 (va_up wd mn w) (va_up zs mn L) fp' mn w k) mn 0 := by
  obtain ⟨⟨a1, a2, a3, a4, a5, a6, a7, a8, a9⟩, hct, hs3, hts, hz, hwd, hph, hpa, hch, hfp, hen0⟩ := h
  have zk : ∀ k, k < mn → va_up zs mn L k = zs k := fun k hk => va_up_ne zs L (by omega)
  have wk : ∀ k, k < mn → va_up wd mn w k = wd k := fun k hk => va_up_ne wd w (by omega)
  have zm : va_up zs mn L mn = L := va_up_self zs mn L
  apply Bool.eq_iff_iff.mpr
  rw [any_iff, Bool.and_eq_true, decide_eq_true_eq]
  have du : ∀ k, k < mn → (wt_du1 (va_up wd mn w) (va_up zs mn L) fp' mn w k = true ↔ wd k = w ∧ zs k = L ∧ ∀ a, a < L → pg (3 * k + a) = pg3 pg mn p q r (3 * mn + a)) := by
    intro k hk
    unfold wt_du1
    rw [Bool.and_eq_true, Bool.and_eq_true, decide_eq_true_eq, decide_eq_true_eq, beg_iff, zk k hk, wk k hk, zm]
    constructor
    · intro ⟨q1, q2, q3, q4, q5⟩
      refine ⟨q1, q2, fun a ha => ?_⟩
      have e := q5 a (by omega)
      have hp := hfp k a hk (by omega)
      have := hz k
      rw [hf0 _ (by omega), hp.1, (hfn a ha).1] at e
      exact nI_inj (by omega) (by have := (hfn a ha).2; omega) e
    · intro ⟨q1, q2, q3⟩
      refine ⟨q1, q2, Nat.le_refl _, by omega, fun a ha => ?_⟩
      have hp := hfp k a hk ha
      have := hz k
      rw [hf0 _ (by omega), hp.1, (hfn a (by omega)).1, q3 a (by omega)]
  constructor
  · intro ⟨hd0, he⟩
    obtain ⟨g1, g2, g3, g4, -⟩ := hd hd0
    have hds : 1 ≤ d ∧ d ≤ sz := by
      have := (g1.1 mn (by omega)).2 (L - 1) (by rw [zm]; omega)
      rw [show L - 1 + 1 = L by omega, ← g3] at this
      exact ⟨this.2.1, this.2.2.1⟩
    obtain ⟨k, hk, q1, q2⟩ := (a5 d w hds.1 hds.2 hw).mp he
    have e : tr_nd ch (pg3 pg mn p q r) k (zs k) = tr_nd ch (pg3 pg mn p q r) mn L := by rw [nd_old hz hk _ (Nat.le_refl _), q2, g3]
    obtain ⟨u1, u2⟩ := tr_uniq g1 (show k < mn + 1 by omega) (show mn < mn + 1 by omega) (zs k) L (by rw [zk k hk]; exact Nat.le_refl _) (by rw [zm]; exact Nat.le_refl _) e
    refine ⟨k, Nat.zero_le k, by omega, (du k hk).mpr ⟨q1, u1, fun a ha => ?_⟩⟩
    have := u2 a (by omega)
    rw [pg3_old (by have := hz k; omega)] at this
    exact this
  · intro ⟨k, _, hk, hq⟩
    obtain ⟨q1, q2, q3⟩ := (du k (by omega)).mp hq
    have e := hd2 k (by omega) q2 q3
    have hk' : k < mn := by omega
    have hn := (a3.1 k hk').2 (L - 1) (by omega)
    rw [show L - 1 + 1 = L by omega, ← e] at hn
    exact ⟨by omega, (a5 d w hn.2.1 hn.2.2.1 hw).mpr ⟨k, hk', q1, by rw [q2]; exact e.symm⟩⟩
end SAY
end
section
/-! say's three forms -/
theorem fp3_old {fp : Nat → Int32} {mn j : Nat} {x y z : Int32} (h : j < 3 * mn) : upd (upd (upd fp (3 * mn) x) (3 * mn + 1) y) (3 * mn + 2) z j = fp j := by rw [pk_un (by omega), pk_un (by omega), pk_un (by omega)]
theorem fp3_0 {fp : Nat → Int32} {mn : Nat} {x y z : Int32} : upd (upd (upd fp (3 * mn) x) (3 * mn + 1) y) (3 * mn + 2) z (3 * mn + 0) = x := by rw [pk_un (by omega), pk_un (by omega)]; exact pk_us
theorem fp3_1 {fp : Nat → Int32} {mn : Nat} {x y z : Int32} : upd (upd (upd fp (3 * mn) x) (3 * mn + 1) y) (3 * mn + 2) z (3 * mn + 1) = y := by rw [pk_un (by omega)]; exact pk_us
theorem fp3_2 {fp : Nat → Int32} {mn : Nat} {x y z : Int32} : upd (upd (upd fp (3 * mn) x) (3 * mn + 1) y) (3 * mn + 2) z (3 * mn + 2) = z := pk_us
section SAY3
variable {ph pa ch : Nat → Nat} {en : Nat → Bool} {sz : Nat} {gc gb sc sh sl : Nat → Int32} {ct : Nat} {kn : Nat → Bool} {co bo : Nat → Int32} {mn : Nat} {wd zs : Nat → Nat} {fp : Nat → Int32} {pg : Nat → Nat} {w p q r : Nat}
theorem grown_1 (h : rel ph pa ch en sz gc gb sc sh sl ct kn co bo mn wd zs fp pg) (hmn : mn ≤ 7) (w : Nat) (hp : p < 4) : grown mn 1 w wd zs (pg3 pg mn p 0 0) ph pa ch sz (wt_gr ph pa ch sz 0 p).1 (wt_gr ph pa ch sz 0 p).2.1 (wt_gr ph pa ch sz 0 p).2.2.1 (wt_gr ph pa ch sz 0 p).2.2.2.1 (wt_gr ph pa ch sz 0 p).2.2.2.2 := by
  have hs : sz + 3 ≤ 24 := by have := h.2.2.1; omega
  have g1 := grow_step (grow_0 h p 0 0 w) (by omega) hp pg3_0 (by omega)
  exact g1
theorem fpn_1 (hp : p < 4) : ∀ i, i < 1 → (upd (upd (upd fp (3 * mn) (nI p)) (3 * mn + 1) ((-1))) (3 * mn + 2) ((-1))) (3 * mn + i) = nI (pg3 pg mn p 0 0 (3 * mn + i)) ∧ pg3 pg mn p 0 0 (3 * mn + i) < 4 := by
  intro i hi
  rcases (show i = 0 by omega) with rfl
  · rw [fp3_0, pg3_0]; exact ⟨rfl, hp⟩
theorem has_1 (h : rel ph pa ch en sz gc gb sc sh sl ct kn co bo mn wd zs fp pg) (hmn : mn ≤ 7) (hw : w < 4) (hp : p < 4) : (decide (¬ ch (0 * 4 + p) = 0) && en (ch (0 * 4 + p) * 4 + w)) = wt_any (fun k => wt_du1 (va_up wd mn w) (va_up zs mn 1) (upd (upd (upd fp (3 * mn) (nI p)) (3 * mn + 1) ((-1))) (3 * mn + 2) ((-1))) mn w k) mn 0 := by
  refine has_dup h (p := p) (q := 0) (r := 0) ⟨by omega, by omega⟩ hw (fun hd => ?_) (fun k hk hz hf => ?_) (fun j hj => fp3_old hj) (fpn_1 hp)
  · have g := grown_1 h hmn w hp
    rw [show wt_gr ph pa ch sz 0 p = (ph, pa, ch, sz, ch (0 * 4 + p)) from if_neg hd] at g
    exact g
  · have f0 := hf 0 (by omega)
    rw [pg3_0] at f0
    have hn1 := ((h.1.2.2.1.1 k hk).2 0 (by omega)).2.1
    have m1 : tr_nd ch pg k 1 = ch (0 * 4 + p) := by show ch (0 * 4 + pg (3 * k + 0)) = _; rw [f0]
    exact m1.symm
theorem add_1 (h : rel ph pa ch en sz gc gb sc sh sl ct kn co bo mn wd zs fp pg) (hmn : mn ≤ 7) (hw : w < 4) (hp : p < 4) : rel (wt_gr ph pa ch sz 0 p).1 (wt_gr ph pa ch sz 0 p).2.1 (wt_gr ph pa ch sz 0 p).2.2.1 (va_up en ((wt_gr ph pa ch sz 0 p).2.2.2.2 * 4 + w) true) (wt_gr ph pa ch sz 0 p).2.2.2.1 gc gb sc sh sl ct kn co bo (mn + 1) (va_up wd mn w) (va_up zs mn 1) (upd (upd (upd fp (3 * mn) (nI p)) (3 * mn + 1) ((-1))) (3 * mn + 2) ((-1))) (pg3 pg mn p 0 0) := rel_add h hmn ⟨by omega, by omega⟩ hw (grown_1 h hmn w hp) (fun j hj => fp3_old hj) (fpn_1 hp)
theorem dup_1 (h : rel ph pa ch en sz gc gb sc sh sl ct kn co bo mn wd zs fp pg) (hw : w < 4) : rel ph pa ch en sz gc gb sc sh sl ct kn co bo mn (va_up wd mn w) (va_up zs mn 1) (upd (upd (upd fp (3 * mn) (nI p)) (3 * mn + 1) ((-1))) (3 * mn + 2) ((-1))) pg := rel_dup h (by omega) hw (fun j hj => fp3_old hj)
theorem nod_1 (h : rel ph pa ch en sz gc gb sc sh sl ct kn co bo mn wd zs fp pg) (hmn : mn ≤ 7) (hw : w < 4) (hp : p < 4) : wt_nod (va_up zs mn 1) (upd (upd (upd fp (3 * mn) (nI p)) (3 * mn + 1) ((-1))) (3 * mn + 2) ((-1))) (mn + 1) = (wt_gr ph pa ch sz 0 p).2.2.2.1 := by
  have g := add_1 h hmn hw hp
  exact nod_eq g.2.2.2.1 g.2.2.2.2.2.2.2.2.2.1
theorem grown_2 (h : rel ph pa ch en sz gc gb sc sh sl ct kn co bo mn wd zs fp pg) (hmn : mn ≤ 7) (w : Nat) (hp : p < 4) (hq : q < 4) : grown mn 2 w wd zs (pg3 pg mn p q 0) ph pa ch sz (wt_gr (wt_gr ph pa ch sz 0 p).1 (wt_gr ph pa ch sz 0 p).2.1 (wt_gr ph pa ch sz 0 p).2.2.1 (wt_gr ph pa ch sz 0 p).2.2.2.1 (wt_gr ph pa ch sz 0 p).2.2.2.2 q).1 (wt_gr (wt_gr ph pa ch sz 0 p).1 (wt_gr ph pa ch sz 0 p).2.1 (wt_gr ph pa ch sz 0 p).2.2.1 (wt_gr ph pa ch sz 0 p).2.2.2.1 (wt_gr ph pa ch sz 0 p).2.2.2.2 q).2.1 (wt_gr (wt_gr ph pa ch sz 0 p).1 (wt_gr ph pa ch sz 0 p).2.1 (wt_gr ph pa ch sz 0 p).2.2.1 (wt_gr ph pa ch sz 0 p).2.2.2.1 (wt_gr ph pa ch sz 0 p).2.2.2.2 q).2.2.1 (wt_gr (wt_gr ph pa ch sz 0 p).1 (wt_gr ph pa ch sz 0 p).2.1 (wt_gr ph pa ch sz 0 p).2.2.1 (wt_gr ph pa ch sz 0 p).2.2.2.1 (wt_gr ph pa ch sz 0 p).2.2.2.2 q).2.2.2.1 (wt_gr (wt_gr ph pa ch sz 0 p).1 (wt_gr ph pa ch sz 0 p).2.1 (wt_gr ph pa ch sz 0 p).2.2.1 (wt_gr ph pa ch sz 0 p).2.2.2.1 (wt_gr ph pa ch sz 0 p).2.2.2.2 q).2.2.2.2 := by
  have hs : sz + 3 ≤ 24 := by have := h.2.2.1; omega
  have g1 := grow_step (grow_0 h p q 0 w) (by omega) hp pg3_0 (by omega)
  have s1 := (gr_szle (ph := ph) (pa := pa) (ch := ch) (sz := sz) (n := 0) (p := p)).2
  have g2 := grow_step g1 (by omega) hq pg3_1 (by omega)
  exact g2
theorem fpn_2 (hp : p < 4) (hq : q < 4) : ∀ i, i < 2 → (upd (upd (upd fp (3 * mn) (nI p)) (3 * mn + 1) (nI q)) (3 * mn + 2) ((-1))) (3 * mn + i) = nI (pg3 pg mn p q 0 (3 * mn + i)) ∧ pg3 pg mn p q 0 (3 * mn + i) < 4 := by
  intro i hi
  rcases (show i = 0 ∨ i = 1 by omega) with rfl | rfl
  · rw [fp3_0, pg3_0]; exact ⟨rfl, hp⟩
  · rw [fp3_1, pg3_1]; exact ⟨rfl, hq⟩
theorem has_2 (h : rel ph pa ch en sz gc gb sc sh sl ct kn co bo mn wd zs fp pg) (hmn : mn ≤ 7) (hw : w < 4) (hp : p < 4) (hq : q < 4) : (decide (¬ wt_d2 ch p q = 0) && en (wt_d2 ch p q * 4 + w)) = wt_any (fun k => wt_du1 (va_up wd mn w) (va_up zs mn 2) (upd (upd (upd fp (3 * mn) (nI p)) (3 * mn + 1) (nI q)) (3 * mn + 2) ((-1))) mn w k) mn 0 := by
  refine has_dup h (p := p) (q := q) (r := 0) ⟨by omega, by omega⟩ hw (fun hd => ?_) (fun k hk hz hf => ?_) (fun j hj => fp3_old hj) (fpn_2 hp hq)
  · have g := grown_2 h hmn w hp hq
    have n1 : ch (0 * 4 + p) ≠ 0 := fun z => hd (by exact if_pos z)
    have e2 : wt_d2 ch p q = ch (ch (0 * 4 + p) * 4 + q) := if_neg n1
    have x1 : wt_gr ph pa ch sz 0 p = (ph, pa, ch, sz, ch (0 * 4 + p)) := if_neg n1
    rw [x1] at g
    rw [e2] at hd ⊢
    have x2 : wt_gr ph pa ch sz (ch (0 * 4 + p)) q = (ph, pa, ch, sz, ch (ch (0 * 4 + p) * 4 + q)) := if_neg hd
    have g : grown mn 2 w wd zs (pg3 pg mn p q 0) ph pa ch sz (wt_gr ph pa ch sz (ch (0 * 4 + p)) q).1 (wt_gr ph pa ch sz (ch (0 * 4 + p)) q).2.1 (wt_gr ph pa ch sz (ch (0 * 4 + p)) q).2.2.1 (wt_gr ph pa ch sz (ch (0 * 4 + p)) q).2.2.2.1 (wt_gr ph pa ch sz (ch (0 * 4 + p)) q).2.2.2.2 := g
    rw [x2] at g
    exact g
  · have f0 := hf 0 (by omega)
    rw [pg3_0] at f0
    have hn1 := ((h.1.2.2.1.1 k hk).2 0 (by omega)).2.1
    have m1 : tr_nd ch pg k 1 = ch (0 * 4 + p) := by show ch (0 * 4 + pg (3 * k + 0)) = _; rw [f0]
    have f1 := hf 1 (by omega)
    rw [pg3_1] at f1
    rw [show (0 : Nat) + 1 = 1 from rfl, m1] at hn1
    have e2 : wt_d2 ch p q = ch (ch (0 * 4 + p) * 4 + q) := if_neg (by omega)
    have m2 : tr_nd ch pg k 2 = ch (ch (0 * 4 + p) * 4 + q) := by show ch (tr_nd ch pg k 1 * 4 + pg (3 * k + 1)) = _; rw [m1, f1]
    rw [e2, m2]
theorem add_2 (h : rel ph pa ch en sz gc gb sc sh sl ct kn co bo mn wd zs fp pg) (hmn : mn ≤ 7) (hw : w < 4) (hp : p < 4) (hq : q < 4) : rel (wt_gr (wt_gr ph pa ch sz 0 p).1 (wt_gr ph pa ch sz 0 p).2.1 (wt_gr ph pa ch sz 0 p).2.2.1 (wt_gr ph pa ch sz 0 p).2.2.2.1 (wt_gr ph pa ch sz 0 p).2.2.2.2 q).1 (wt_gr (wt_gr ph pa ch sz 0 p).1 (wt_gr ph pa ch sz 0 p).2.1 (wt_gr ph pa ch sz 0 p).2.2.1 (wt_gr ph pa ch sz 0 p).2.2.2.1 (wt_gr ph pa ch sz 0 p).2.2.2.2 q).2.1 (wt_gr (wt_gr ph pa ch sz 0 p).1 (wt_gr ph pa ch sz 0 p).2.1 (wt_gr ph pa ch sz 0 p).2.2.1 (wt_gr ph pa ch sz 0 p).2.2.2.1 (wt_gr ph pa ch sz 0 p).2.2.2.2 q).2.2.1 (va_up en ((wt_gr (wt_gr ph pa ch sz 0 p).1 (wt_gr ph pa ch sz 0 p).2.1 (wt_gr ph pa ch sz 0 p).2.2.1 (wt_gr ph pa ch sz 0 p).2.2.2.1 (wt_gr ph pa ch sz 0 p).2.2.2.2 q).2.2.2.2 * 4 + w) true) (wt_gr (wt_gr ph pa ch sz 0 p).1 (wt_gr ph pa ch sz 0 p).2.1 (wt_gr ph pa ch sz 0 p).2.2.1 (wt_gr ph pa ch sz 0 p).2.2.2.1 (wt_gr ph pa ch sz 0 p).2.2.2.2 q).2.2.2.1 gc gb sc sh sl ct kn co bo (mn + 1) (va_up wd mn w) (va_up zs mn 2) (upd (upd (upd fp (3 * mn) (nI p)) (3 * mn + 1) (nI q)) (3 * mn + 2) ((-1))) (pg3 pg mn p q 0) := rel_add h hmn ⟨by omega, by omega⟩ hw (grown_2 h hmn w hp hq) (fun j hj => fp3_old hj) (fpn_2 hp hq)
theorem dup_2 (h : rel ph pa ch en sz gc gb sc sh sl ct kn co bo mn wd zs fp pg) (hw : w < 4) : rel ph pa ch en sz gc gb sc sh sl ct kn co bo mn (va_up wd mn w) (va_up zs mn 2) (upd (upd (upd fp (3 * mn) (nI p)) (3 * mn + 1) (nI q)) (3 * mn + 2) ((-1))) pg := rel_dup h (by omega) hw (fun j hj => fp3_old hj)
theorem nod_2 (h : rel ph pa ch en sz gc gb sc sh sl ct kn co bo mn wd zs fp pg) (hmn : mn ≤ 7) (hw : w < 4) (hp : p < 4) (hq : q < 4) : wt_nod (va_up zs mn 2) (upd (upd (upd fp (3 * mn) (nI p)) (3 * mn + 1) (nI q)) (3 * mn + 2) ((-1))) (mn + 1) = (wt_gr (wt_gr ph pa ch sz 0 p).1 (wt_gr ph pa ch sz 0 p).2.1 (wt_gr ph pa ch sz 0 p).2.2.1 (wt_gr ph pa ch sz 0 p).2.2.2.1 (wt_gr ph pa ch sz 0 p).2.2.2.2 q).2.2.2.1 := by
  have g := add_2 h hmn hw hp hq
  exact nod_eq g.2.2.2.1 g.2.2.2.2.2.2.2.2.2.1
theorem grown_3 (h : rel ph pa ch en sz gc gb sc sh sl ct kn co bo mn wd zs fp pg) (hmn : mn ≤ 7) (w : Nat) (hp : p < 4) (hq : q < 4) (hr : r < 4) : grown mn 3 w wd zs (pg3 pg mn p q r) ph pa ch sz (wt_gr (wt_gr (wt_gr ph pa ch sz 0 p).1 (wt_gr ph pa ch sz 0 p).2.1 (wt_gr ph pa ch sz 0 p).2.2.1 (wt_gr ph pa ch sz 0 p).2.2.2.1 (wt_gr ph pa ch sz 0 p).2.2.2.2 q).1 (wt_gr (wt_gr ph pa ch sz 0 p).1 (wt_gr ph pa ch sz 0 p).2.1 (wt_gr ph pa ch sz 0 p).2.2.1 (wt_gr ph pa ch sz 0 p).2.2.2.1 (wt_gr ph pa ch sz 0 p).2.2.2.2 q).2.1 (wt_gr (wt_gr ph pa ch sz 0 p).1 (wt_gr ph pa ch sz 0 p).2.1 (wt_gr ph pa ch sz 0 p).2.2.1 (wt_gr ph pa ch sz 0 p).2.2.2.1 (wt_gr ph pa ch sz 0 p).2.2.2.2 q).2.2.1 (wt_gr (wt_gr ph pa ch sz 0 p).1 (wt_gr ph pa ch sz 0 p).2.1 (wt_gr ph pa ch sz 0 p).2.2.1 (wt_gr ph pa ch sz 0 p).2.2.2.1 (wt_gr ph pa ch sz 0 p).2.2.2.2 q).2.2.2.1 (wt_gr (wt_gr ph pa ch sz 0 p).1 (wt_gr ph pa ch sz 0 p).2.1 (wt_gr ph pa ch sz 0 p).2.2.1 (wt_gr ph pa ch sz 0 p).2.2.2.1 (wt_gr ph pa ch sz 0 p).2.2.2.2 q).2.2.2.2 r).1 (wt_gr (wt_gr (wt_gr ph pa ch sz 0 p).1 (wt_gr ph pa ch sz 0 p).2.1 (wt_gr ph pa ch sz 0 p).2.2.1 (wt_gr ph pa ch sz 0 p).2.2.2.1 (wt_gr ph pa ch sz 0 p).2.2.2.2 q).1 (wt_gr (wt_gr ph pa ch sz 0 p).1 (wt_gr ph pa ch sz 0 p).2.1 (wt_gr ph pa ch sz 0 p).2.2.1 (wt_gr ph pa ch sz 0 p).2.2.2.1 (wt_gr ph pa ch sz 0 p).2.2.2.2 q).2.1 (wt_gr (wt_gr ph pa ch sz 0 p).1 (wt_gr ph pa ch sz 0 p).2.1 (wt_gr ph pa ch sz 0 p).2.2.1 (wt_gr ph pa ch sz 0 p).2.2.2.1 (wt_gr ph pa ch sz 0 p).2.2.2.2 q).2.2.1 (wt_gr (wt_gr ph pa ch sz 0 p).1 (wt_gr ph pa ch sz 0 p).2.1 (wt_gr ph pa ch sz 0 p).2.2.1 (wt_gr ph pa ch sz 0 p).2.2.2.1 (wt_gr ph pa ch sz 0 p).2.2.2.2 q).2.2.2.1 (wt_gr (wt_gr ph pa ch sz 0 p).1 (wt_gr ph pa ch sz 0 p).2.1 (wt_gr ph pa ch sz 0 p).2.2.1 (wt_gr ph pa ch sz 0 p).2.2.2.1 (wt_gr ph pa ch sz 0 p).2.2.2.2 q).2.2.2.2 r).2.1 (wt_gr (wt_gr (wt_gr ph pa ch sz 0 p).1 (wt_gr ph pa ch sz 0 p).2.1 (wt_gr ph pa ch sz 0 p).2.2.1 (wt_gr ph pa ch sz 0 p).2.2.2.1 (wt_gr ph pa ch sz 0 p).2.2.2.2 q).1 (wt_gr (wt_gr ph pa ch sz 0 p).1 (wt_gr ph pa ch sz 0 p).2.1 (wt_gr ph pa ch sz 0 p).2.2.1 (wt_gr ph pa ch sz 0 p).2.2.2.1 (wt_gr ph pa ch sz 0 p).2.2.2.2 q).2.1 (wt_gr (wt_gr ph pa ch sz 0 p).1 (wt_gr ph pa ch sz 0 p).2.1 (wt_gr ph pa ch sz 0 p).2.2.1 (wt_gr ph pa ch sz 0 p).2.2.2.1 (wt_gr ph pa ch sz 0 p).2.2.2.2 q).2.2.1 (wt_gr (wt_gr ph pa ch sz 0 p).1 (wt_gr ph pa ch sz 0 p).2.1 (wt_gr ph pa ch sz 0 p).2.2.1 (wt_gr ph pa ch sz 0 p).2.2.2.1 (wt_gr ph pa ch sz 0 p).2.2.2.2 q).2.2.2.1 (wt_gr (wt_gr ph pa ch sz 0 p).1 (wt_gr ph pa ch sz 0 p).2.1 (wt_gr ph pa ch sz 0 p).2.2.1 (wt_gr ph pa ch sz 0 p).2.2.2.1 (wt_gr ph pa ch sz 0 p).2.2.2.2 q).2.2.2.2 r).2.2.1 (wt_gr (wt_gr (wt_gr ph pa ch sz 0 p).1 (wt_gr ph pa ch sz 0 p).2.1 (wt_gr ph pa ch sz 0 p).2.2.1 (wt_gr ph pa ch sz 0 p).2.2.2.1 (wt_gr ph pa ch sz 0 p).2.2.2.2 q).1 (wt_gr (wt_gr ph pa ch sz 0 p).1 (wt_gr ph pa ch sz 0 p).2.1 (wt_gr ph pa ch sz 0 p).2.2.1 (wt_gr ph pa ch sz 0 p).2.2.2.1 (wt_gr ph pa ch sz 0 p).2.2.2.2 q).2.1 (wt_gr (wt_gr ph pa ch sz 0 p).1 (wt_gr ph pa ch sz 0 p).2.1 (wt_gr ph pa ch sz 0 p).2.2.1 (wt_gr ph pa ch sz 0 p).2.2.2.1 (wt_gr ph pa ch sz 0 p).2.2.2.2 q).2.2.1 (wt_gr (wt_gr ph pa ch sz 0 p).1 (wt_gr ph pa ch sz 0 p).2.1 (wt_gr ph pa ch sz 0 p).2.2.1 (wt_gr ph pa ch sz 0 p).2.2.2.1 (wt_gr ph pa ch sz 0 p).2.2.2.2 q).2.2.2.1 (wt_gr (wt_gr ph pa ch sz 0 p).1 (wt_gr ph pa ch sz 0 p).2.1 (wt_gr ph pa ch sz 0 p).2.2.1 (wt_gr ph pa ch sz 0 p).2.2.2.1 (wt_gr ph pa ch sz 0 p).2.2.2.2 q).2.2.2.2 r).2.2.2.1 (wt_gr (wt_gr (wt_gr ph pa ch sz 0 p).1 (wt_gr ph pa ch sz 0 p).2.1 (wt_gr ph pa ch sz 0 p).2.2.1 (wt_gr ph pa ch sz 0 p).2.2.2.1 (wt_gr ph pa ch sz 0 p).2.2.2.2 q).1 (wt_gr (wt_gr ph pa ch sz 0 p).1 (wt_gr ph pa ch sz 0 p).2.1 (wt_gr ph pa ch sz 0 p).2.2.1 (wt_gr ph pa ch sz 0 p).2.2.2.1 (wt_gr ph pa ch sz 0 p).2.2.2.2 q).2.1 (wt_gr (wt_gr ph pa ch sz 0 p).1 (wt_gr ph pa ch sz 0 p).2.1 (wt_gr ph pa ch sz 0 p).2.2.1 (wt_gr ph pa ch sz 0 p).2.2.2.1 (wt_gr ph pa ch sz 0 p).2.2.2.2 q).2.2.1 (wt_gr (wt_gr ph pa ch sz 0 p).1 (wt_gr ph pa ch sz 0 p).2.1 (wt_gr ph pa ch sz 0 p).2.2.1 (wt_gr ph pa ch sz 0 p).2.2.2.1 (wt_gr ph pa ch sz 0 p).2.2.2.2 q).2.2.2.1 (wt_gr (wt_gr ph pa ch sz 0 p).1 (wt_gr ph pa ch sz 0 p).2.1 (wt_gr ph pa ch sz 0 p).2.2.1 (wt_gr ph pa ch sz 0 p).2.2.2.1 (wt_gr ph pa ch sz 0 p).2.2.2.2 q).2.2.2.2 r).2.2.2.2 := by
  have hs : sz + 3 ≤ 24 := by have := h.2.2.1; omega
  have g1 := grow_step (grow_0 h p q r w) (by omega) hp pg3_0 (by omega)
  have s1 := (gr_szle (ph := ph) (pa := pa) (ch := ch) (sz := sz) (n := 0) (p := p)).2
  have g2 := grow_step g1 (by omega) hq pg3_1 (by omega)
  have s2 := (gr_szle (ph := (wt_gr ph pa ch sz 0 p).1) (pa := (wt_gr ph pa ch sz 0 p).2.1) (ch := (wt_gr ph pa ch sz 0 p).2.2.1) (sz := (wt_gr ph pa ch sz 0 p).2.2.2.1) (n := (wt_gr ph pa ch sz 0 p).2.2.2.2) (p := q)).2
  have g3 := grow_step g2 (by omega) hr pg3_2 (by omega)
  exact g3
theorem fpn_3 (hp : p < 4) (hq : q < 4) (hr : r < 4) : ∀ i, i < 3 → (upd (upd (upd fp (3 * mn) (nI p)) (3 * mn + 1) (nI q)) (3 * mn + 2) (nI r)) (3 * mn + i) = nI (pg3 pg mn p q r (3 * mn + i)) ∧ pg3 pg mn p q r (3 * mn + i) < 4 := by
  intro i hi
  rcases (show i = 0 ∨ i = 1 ∨ i = 2 by omega) with rfl | rfl | rfl
  · rw [fp3_0, pg3_0]; exact ⟨rfl, hp⟩
  · rw [fp3_1, pg3_1]; exact ⟨rfl, hq⟩
  · rw [fp3_2, pg3_2]; exact ⟨rfl, hr⟩
theorem has_3 (h : rel ph pa ch en sz gc gb sc sh sl ct kn co bo mn wd zs fp pg) (hmn : mn ≤ 7) (hw : w < 4) (hp : p < 4) (hq : q < 4) (hr : r < 4) : (decide (¬ wt_d3 ch p q r = 0) && en (wt_d3 ch p q r * 4 + w)) = wt_any (fun k => wt_du1 (va_up wd mn w) (va_up zs mn 3) (upd (upd (upd fp (3 * mn) (nI p)) (3 * mn + 1) (nI q)) (3 * mn + 2) (nI r)) mn w k) mn 0 := by
  refine has_dup h (p := p) (q := q) (r := r) ⟨by omega, by omega⟩ hw (fun hd => ?_) (fun k hk hz hf => ?_) (fun j hj => fp3_old hj) (fpn_3 hp hq hr)
  · have g := grown_3 h hmn w hp hq hr
    have n1 : ch (0 * 4 + p) ≠ 0 := fun z => hd (by unfold wt_d3; rw [show wt_d2 ch p q = 0 from if_pos z]; rfl)
    have e2 : wt_d2 ch p q = ch (ch (0 * 4 + p) * 4 + q) := if_neg n1
    have n2 : wt_d2 ch p q ≠ 0 := fun z => hd (if_pos z)
    have e3 : wt_d3 ch p q r = ch (wt_d2 ch p q * 4 + r) := if_neg n2
    have x1 : wt_gr ph pa ch sz 0 p = (ph, pa, ch, sz, ch (0 * 4 + p)) := if_neg n1
    rw [x1] at g
    rw [e2] at n2
    rw [e3, e2] at hd ⊢
    have x2 : wt_gr ph pa ch sz (ch (0 * 4 + p)) q = (ph, pa, ch, sz, ch (ch (0 * 4 + p) * 4 + q)) := if_neg n2
    have g : grown mn 3 w wd zs (pg3 pg mn p q r) ph pa ch sz (wt_gr (wt_gr ph pa ch sz (ch (0 * 4 + p)) q).1 (wt_gr ph pa ch sz (ch (0 * 4 + p)) q).2.1 (wt_gr ph pa ch sz (ch (0 * 4 + p)) q).2.2.1 (wt_gr ph pa ch sz (ch (0 * 4 + p)) q).2.2.2.1 (wt_gr ph pa ch sz (ch (0 * 4 + p)) q).2.2.2.2 r).1 (wt_gr (wt_gr ph pa ch sz (ch (0 * 4 + p)) q).1 (wt_gr ph pa ch sz (ch (0 * 4 + p)) q).2.1 (wt_gr ph pa ch sz (ch (0 * 4 + p)) q).2.2.1 (wt_gr ph pa ch sz (ch (0 * 4 + p)) q).2.2.2.1 (wt_gr ph pa ch sz (ch (0 * 4 + p)) q).2.2.2.2 r).2.1 (wt_gr (wt_gr ph pa ch sz (ch (0 * 4 + p)) q).1 (wt_gr ph pa ch sz (ch (0 * 4 + p)) q).2.1 (wt_gr ph pa ch sz (ch (0 * 4 + p)) q).2.2.1 (wt_gr ph pa ch sz (ch (0 * 4 + p)) q).2.2.2.1 (wt_gr ph pa ch sz (ch (0 * 4 + p)) q).2.2.2.2 r).2.2.1 (wt_gr (wt_gr ph pa ch sz (ch (0 * 4 + p)) q).1 (wt_gr ph pa ch sz (ch (0 * 4 + p)) q).2.1 (wt_gr ph pa ch sz (ch (0 * 4 + p)) q).2.2.1 (wt_gr ph pa ch sz (ch (0 * 4 + p)) q).2.2.2.1 (wt_gr ph pa ch sz (ch (0 * 4 + p)) q).2.2.2.2 r).2.2.2.1 (wt_gr (wt_gr ph pa ch sz (ch (0 * 4 + p)) q).1 (wt_gr ph pa ch sz (ch (0 * 4 + p)) q).2.1 (wt_gr ph pa ch sz (ch (0 * 4 + p)) q).2.2.1 (wt_gr ph pa ch sz (ch (0 * 4 + p)) q).2.2.2.1 (wt_gr ph pa ch sz (ch (0 * 4 + p)) q).2.2.2.2 r).2.2.2.2 := g
    rw [x2] at g
    have g : grown mn 3 w wd zs (pg3 pg mn p q r) ph pa ch sz (wt_gr ph pa ch sz (ch (ch (0 * 4 + p) * 4 + q)) r).1 (wt_gr ph pa ch sz (ch (ch (0 * 4 + p) * 4 + q)) r).2.1 (wt_gr ph pa ch sz (ch (ch (0 * 4 + p) * 4 + q)) r).2.2.1 (wt_gr ph pa ch sz (ch (ch (0 * 4 + p) * 4 + q)) r).2.2.2.1 (wt_gr ph pa ch sz (ch (ch (0 * 4 + p) * 4 + q)) r).2.2.2.2 := g
    rw [show wt_gr ph pa ch sz (ch (ch (0 * 4 + p) * 4 + q)) r = (ph, pa, ch, sz, ch (ch (ch (0 * 4 + p) * 4 + q) * 4 + r)) from if_neg hd] at g
    exact g
  · have f0 := hf 0 (by omega)
    rw [pg3_0] at f0
    have hn1 := ((h.1.2.2.1.1 k hk).2 0 (by omega)).2.1
    have m1 : tr_nd ch pg k 1 = ch (0 * 4 + p) := by show ch (0 * 4 + pg (3 * k + 0)) = _; rw [f0]
    have f1 := hf 1 (by omega)
    rw [pg3_1] at f1
    rw [show (0 : Nat) + 1 = 1 from rfl, m1] at hn1
    have e2 : wt_d2 ch p q = ch (ch (0 * 4 + p) * 4 + q) := if_neg (by omega)
    have m2 : tr_nd ch pg k 2 = ch (ch (0 * 4 + p) * 4 + q) := by show ch (tr_nd ch pg k 1 * 4 + pg (3 * k + 1)) = _; rw [m1, f1]
    have hn2 := ((h.1.2.2.1.1 k hk).2 1 (by omega)).2.1
    rw [show (1 : Nat) + 1 = 2 from rfl, m2] at hn2
    have f2 := hf 2 (by omega)
    rw [pg3_2] at f2
    have e3 : wt_d3 ch p q r = ch (wt_d2 ch p q * 4 + r) := if_neg (by rw [e2]; omega)
    have m3 : tr_nd ch pg k 3 = ch (ch (ch (0 * 4 + p) * 4 + q) * 4 + r) := by show ch (tr_nd ch pg k 2 * 4 + pg (3 * k + 2)) = _; rw [m2, f2]
    rw [e3, e2, m3]
theorem add_3 (h : rel ph pa ch en sz gc gb sc sh sl ct kn co bo mn wd zs fp pg) (hmn : mn ≤ 7) (hw : w < 4) (hp : p < 4) (hq : q < 4) (hr : r < 4) : rel (wt_gr (wt_gr (wt_gr ph pa ch sz 0 p).1 (wt_gr ph pa ch sz 0 p).2.1 (wt_gr ph pa ch sz 0 p).2.2.1 (wt_gr ph pa ch sz 0 p).2.2.2.1 (wt_gr ph pa ch sz 0 p).2.2.2.2 q).1 (wt_gr (wt_gr ph pa ch sz 0 p).1 (wt_gr ph pa ch sz 0 p).2.1 (wt_gr ph pa ch sz 0 p).2.2.1 (wt_gr ph pa ch sz 0 p).2.2.2.1 (wt_gr ph pa ch sz 0 p).2.2.2.2 q).2.1 (wt_gr (wt_gr ph pa ch sz 0 p).1 (wt_gr ph pa ch sz 0 p).2.1 (wt_gr ph pa ch sz 0 p).2.2.1 (wt_gr ph pa ch sz 0 p).2.2.2.1 (wt_gr ph pa ch sz 0 p).2.2.2.2 q).2.2.1 (wt_gr (wt_gr ph pa ch sz 0 p).1 (wt_gr ph pa ch sz 0 p).2.1 (wt_gr ph pa ch sz 0 p).2.2.1 (wt_gr ph pa ch sz 0 p).2.2.2.1 (wt_gr ph pa ch sz 0 p).2.2.2.2 q).2.2.2.1 (wt_gr (wt_gr ph pa ch sz 0 p).1 (wt_gr ph pa ch sz 0 p).2.1 (wt_gr ph pa ch sz 0 p).2.2.1 (wt_gr ph pa ch sz 0 p).2.2.2.1 (wt_gr ph pa ch sz 0 p).2.2.2.2 q).2.2.2.2 r).1 (wt_gr (wt_gr (wt_gr ph pa ch sz 0 p).1 (wt_gr ph pa ch sz 0 p).2.1 (wt_gr ph pa ch sz 0 p).2.2.1 (wt_gr ph pa ch sz 0 p).2.2.2.1 (wt_gr ph pa ch sz 0 p).2.2.2.2 q).1 (wt_gr (wt_gr ph pa ch sz 0 p).1 (wt_gr ph pa ch sz 0 p).2.1 (wt_gr ph pa ch sz 0 p).2.2.1 (wt_gr ph pa ch sz 0 p).2.2.2.1 (wt_gr ph pa ch sz 0 p).2.2.2.2 q).2.1 (wt_gr (wt_gr ph pa ch sz 0 p).1 (wt_gr ph pa ch sz 0 p).2.1 (wt_gr ph pa ch sz 0 p).2.2.1 (wt_gr ph pa ch sz 0 p).2.2.2.1 (wt_gr ph pa ch sz 0 p).2.2.2.2 q).2.2.1 (wt_gr (wt_gr ph pa ch sz 0 p).1 (wt_gr ph pa ch sz 0 p).2.1 (wt_gr ph pa ch sz 0 p).2.2.1 (wt_gr ph pa ch sz 0 p).2.2.2.1 (wt_gr ph pa ch sz 0 p).2.2.2.2 q).2.2.2.1 (wt_gr (wt_gr ph pa ch sz 0 p).1 (wt_gr ph pa ch sz 0 p).2.1 (wt_gr ph pa ch sz 0 p).2.2.1 (wt_gr ph pa ch sz 0 p).2.2.2.1 (wt_gr ph pa ch sz 0 p).2.2.2.2 q).2.2.2.2 r).2.1 (wt_gr (wt_gr (wt_gr ph pa ch sz 0 p).1 (wt_gr ph pa ch sz 0 p).2.1 (wt_gr ph pa ch sz 0 p).2.2.1 (wt_gr ph pa ch sz 0 p).2.2.2.1 (wt_gr ph pa ch sz 0 p).2.2.2.2 q).1 (wt_gr (wt_gr ph pa ch sz 0 p).1 (wt_gr ph pa ch sz 0 p).2.1 (wt_gr ph pa ch sz 0 p).2.2.1 (wt_gr ph pa ch sz 0 p).2.2.2.1 (wt_gr ph pa ch sz 0 p).2.2.2.2 q).2.1 (wt_gr (wt_gr ph pa ch sz 0 p).1 (wt_gr ph pa ch sz 0 p).2.1 (wt_gr ph pa ch sz 0 p).2.2.1 (wt_gr ph pa ch sz 0 p).2.2.2.1 (wt_gr ph pa ch sz 0 p).2.2.2.2 q).2.2.1 (wt_gr (wt_gr ph pa ch sz 0 p).1 (wt_gr ph pa ch sz 0 p).2.1 (wt_gr ph pa ch sz 0 p).2.2.1 (wt_gr ph pa ch sz 0 p).2.2.2.1 (wt_gr ph pa ch sz 0 p).2.2.2.2 q).2.2.2.1 (wt_gr (wt_gr ph pa ch sz 0 p).1 (wt_gr ph pa ch sz 0 p).2.1 (wt_gr ph pa ch sz 0 p).2.2.1 (wt_gr ph pa ch sz 0 p).2.2.2.1 (wt_gr ph pa ch sz 0 p).2.2.2.2 q).2.2.2.2 r).2.2.1 (va_up en ((wt_gr (wt_gr (wt_gr ph pa ch sz 0 p).1 (wt_gr ph pa ch sz 0 p).2.1 (wt_gr ph pa ch sz 0 p).2.2.1 (wt_gr ph pa ch sz 0 p).2.2.2.1 (wt_gr ph pa ch sz 0 p).2.2.2.2 q).1 (wt_gr (wt_gr ph pa ch sz 0 p).1 (wt_gr ph pa ch sz 0 p).2.1 (wt_gr ph pa ch sz 0 p).2.2.1 (wt_gr ph pa ch sz 0 p).2.2.2.1 (wt_gr ph pa ch sz 0 p).2.2.2.2 q).2.1 (wt_gr (wt_gr ph pa ch sz 0 p).1 (wt_gr ph pa ch sz 0 p).2.1 (wt_gr ph pa ch sz 0 p).2.2.1 (wt_gr ph pa ch sz 0 p).2.2.2.1 (wt_gr ph pa ch sz 0 p).2.2.2.2 q).2.2.1 (wt_gr (wt_gr ph pa ch sz 0 p).1 (wt_gr ph pa ch sz 0 p).2.1 (wt_gr ph pa ch sz 0 p).2.2.1 (wt_gr ph pa ch sz 0 p).2.2.2.1 (wt_gr ph pa ch sz 0 p).2.2.2.2 q).2.2.2.1 (wt_gr (wt_gr ph pa ch sz 0 p).1 (wt_gr ph pa ch sz 0 p).2.1 (wt_gr ph pa ch sz 0 p).2.2.1 (wt_gr ph pa ch sz 0 p).2.2.2.1 (wt_gr ph pa ch sz 0 p).2.2.2.2 q).2.2.2.2 r).2.2.2.2 * 4 + w) true) (wt_gr (wt_gr (wt_gr ph pa ch sz 0 p).1 (wt_gr ph pa ch sz 0 p).2.1 (wt_gr ph pa ch sz 0 p).2.2.1 (wt_gr ph pa ch sz 0 p).2.2.2.1 (wt_gr ph pa ch sz 0 p).2.2.2.2 q).1 (wt_gr (wt_gr ph pa ch sz 0 p).1 (wt_gr ph pa ch sz 0 p).2.1 (wt_gr ph pa ch sz 0 p).2.2.1 (wt_gr ph pa ch sz 0 p).2.2.2.1 (wt_gr ph pa ch sz 0 p).2.2.2.2 q).2.1 (wt_gr (wt_gr ph pa ch sz 0 p).1 (wt_gr ph pa ch sz 0 p).2.1 (wt_gr ph pa ch sz 0 p).2.2.1 (wt_gr ph pa ch sz 0 p).2.2.2.1 (wt_gr ph pa ch sz 0 p).2.2.2.2 q).2.2.1 (wt_gr (wt_gr ph pa ch sz 0 p).1 (wt_gr ph pa ch sz 0 p).2.1 (wt_gr ph pa ch sz 0 p).2.2.1 (wt_gr ph pa ch sz 0 p).2.2.2.1 (wt_gr ph pa ch sz 0 p).2.2.2.2 q).2.2.2.1 (wt_gr (wt_gr ph pa ch sz 0 p).1 (wt_gr ph pa ch sz 0 p).2.1 (wt_gr ph pa ch sz 0 p).2.2.1 (wt_gr ph pa ch sz 0 p).2.2.2.1 (wt_gr ph pa ch sz 0 p).2.2.2.2 q).2.2.2.2 r).2.2.2.1 gc gb sc sh sl ct kn co bo (mn + 1) (va_up wd mn w) (va_up zs mn 3) (upd (upd (upd fp (3 * mn) (nI p)) (3 * mn + 1) (nI q)) (3 * mn + 2) (nI r)) (pg3 pg mn p q r) := rel_add h hmn ⟨by omega, by omega⟩ hw (grown_3 h hmn w hp hq hr) (fun j hj => fp3_old hj) (fpn_3 hp hq hr)
theorem dup_3 (h : rel ph pa ch en sz gc gb sc sh sl ct kn co bo mn wd zs fp pg) (hw : w < 4) : rel ph pa ch en sz gc gb sc sh sl ct kn co bo mn (va_up wd mn w) (va_up zs mn 3) (upd (upd (upd fp (3 * mn) (nI p)) (3 * mn + 1) (nI q)) (3 * mn + 2) (nI r)) pg := rel_dup h (by omega) hw (fun j hj => fp3_old hj)
theorem nod_3 (h : rel ph pa ch en sz gc gb sc sh sl ct kn co bo mn wd zs fp pg) (hmn : mn ≤ 7) (hw : w < 4) (hp : p < 4) (hq : q < 4) (hr : r < 4) : wt_nod (va_up zs mn 3) (upd (upd (upd fp (3 * mn) (nI p)) (3 * mn + 1) (nI q)) (3 * mn + 2) (nI r)) (mn + 1) = (wt_gr (wt_gr (wt_gr ph pa ch sz 0 p).1 (wt_gr ph pa ch sz 0 p).2.1 (wt_gr ph pa ch sz 0 p).2.2.1 (wt_gr ph pa ch sz 0 p).2.2.2.1 (wt_gr ph pa ch sz 0 p).2.2.2.2 q).1 (wt_gr (wt_gr ph pa ch sz 0 p).1 (wt_gr ph pa ch sz 0 p).2.1 (wt_gr ph pa ch sz 0 p).2.2.1 (wt_gr ph pa ch sz 0 p).2.2.2.1 (wt_gr ph pa ch sz 0 p).2.2.2.2 q).2.1 (wt_gr (wt_gr ph pa ch sz 0 p).1 (wt_gr ph pa ch sz 0 p).2.1 (wt_gr ph pa ch sz 0 p).2.2.1 (wt_gr ph pa ch sz 0 p).2.2.2.1 (wt_gr ph pa ch sz 0 p).2.2.2.2 q).2.2.1 (wt_gr (wt_gr ph pa ch sz 0 p).1 (wt_gr ph pa ch sz 0 p).2.1 (wt_gr ph pa ch sz 0 p).2.2.1 (wt_gr ph pa ch sz 0 p).2.2.2.1 (wt_gr ph pa ch sz 0 p).2.2.2.2 q).2.2.2.1 (wt_gr (wt_gr ph pa ch sz 0 p).1 (wt_gr ph pa ch sz 0 p).2.1 (wt_gr ph pa ch sz 0 p).2.2.1 (wt_gr ph pa ch sz 0 p).2.2.2.1 (wt_gr ph pa ch sz 0 p).2.2.2.2 q).2.2.2.2 r).2.2.2.1 := by
  have g := add_3 h hmn hw hp hq hr
  exact nod_eq g.2.2.2.1 g.2.2.2.2.2.2.2.2.2.1
end SAY3
end
