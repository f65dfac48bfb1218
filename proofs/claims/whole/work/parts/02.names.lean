/-! ===== BEGIN words of one list among another's, by their places ===== -/
theorem goodIn_r {big : List Cond} (ws : List Cond) (ps : List Nat) (hp : ws = ps.filterMap (fun i => big[i]?)) (h : ws.all goodWord = true) : GoodIn big ws := by
  intro w hw
  have h1 := List.all_eq_true.mp h w hw
  rw [hp] at hw
  obtain ⟨i, -, hi⟩ := List.mem_filterMap.mp hw
  have hm : w ∈ big := by first | exact List.mem_of_getElem? hi | exact List.getElem?_mem hi
  exact ⟨hm, good_of_word h1⟩
theorem goodIn_app {big a b : List Cond} (ha : GoodIn big a) (hb : GoodIn big b) : GoodIn big (a ++ b) := fun w h => (List.mem_append.mp h).elim (ha w) (hb w)
theorem goodIn_ca {big a b : List Cond} {c : Cond} (ha : GoodIn big (c :: a)) (hb : GoodIn big b) : GoodIn big (c :: (a ++ b)) := fun w h => (List.mem_cons.mp h).elim (fun e => ha w (List.mem_cons.mpr (Or.inl e))) (fun h => (List.mem_append.mp h).elim (fun h => ha w (List.mem_cons.mpr (Or.inr h))) (hb w))
theorem goodIn_sub {big ws : List Cond} (hm : ∀ w ∈ ws, w ∈ big) (h : ws.all goodWord = true) : GoodIn big ws := fun w hw => ⟨hm w hw, good_of_word (List.all_eq_true.mp h w hw)⟩
/-! ===== END ===== -/
def RX0 : String := "PlainWords$Cond"
def TX0 : u_T := fun k => match k with
  | 0 => ("PlainWords$Cond", "kind", "I", true)
  | 1 => ("PlainWords$Cond", "number", "I", true)
  | 2 => ("PlainWords$Cond", "pieces", "[LPlainWords$Cond;", true)
  | 3 => ("PlainWords$Cond", "truth", "J", true)
  | 4 => ("PlainWords$Cond", "words", "I", true)
  | 5 => ("PlainWords$Cond", "nots", "I", true)
  | _ => ("PlainWords$Cond", "notNot", "Z", true)
def tyX0 : Nat → FieldType := fun k => match k with
  | 0 => .int
  | 1 => .int
  | 2 => .array (.object "PlainWords$Cond")
  | 3 => .long
  | 4 => .int
  | 5 => .int
  | _ => .boolean
abbrev wsX00 : List Cond := u_ws RX0 TX0 7
theorem nmX0 : ∀ a, a < 7 → ∀ b, b < 7 → a ≠ b → (TX0 a).2.1 ≠ (TX0 b).2.1 := by decide +kernel
theorem tyX0_ok : ∀ k, k < 7 → parseFieldDescriptor (TX0 k).2.2.1 = some (tyX0 k) := by decide +kernel
abbrev cX0_init : ByteArray := prog_2_method_1_code
def yX0_init : MethodName := ⟨RX0, "<init>", "(I)V"⟩
abbrev cX0_init_ : ByteArray := prog_2_method_2_code
def yX0_init_ : MethodName := ⟨RX0, "<init>", "(I[LPlainWords$Cond;)V"⟩
abbrev cX0_ofCase : ByteArray := prog_2_method_3_code
def yX0_ofCase : MethodName := ⟨RX0, "ofCase", "(I)LPlainWords$Cond;"⟩
abbrev cX0_negated : ByteArray := prog_2_method_4_code
def yX0_negated : MethodName := ⟨RX0, "negated", "(LPlainWords$Cond;)LPlainWords$Cond;"⟩
abbrev cX0_joined : ByteArray := prog_2_method_5_code
def yX0_joined : MethodName := ⟨RX0, "joined", "(ILPlainWords$Cond;LPlainWords$Cond;)LPlainWords$Cond;"⟩
abbrev cX0_rowOf : ByteArray := prog_2_method_6_code
def yX0_rowOf : MethodName := ⟨RX0, "rowOf", "(I)[LPlainWords$Cond;"⟩
abbrev cX0_eased : ByteArray := prog_2_method_7_code
def yX0_eased : MethodName := ⟨RX0, "eased", "(LPlainWords$Cond;I)LPlainWords$Cond;"⟩
abbrev cX0_alike : ByteArray := prog_2_method_8_code
def yX0_alike : MethodName := ⟨RX0, "alike", "(LPlainWords$Cond;LPlainWords$Cond;I)Z"⟩
def RX1 : String := "PlainWords$Letter"
def TX1 : u_T := fun k => match k with
  | _ => ("PlainWords$Letter", "sentences", "Ljava/util/ArrayList;", true)
def tyX1 : Nat → FieldType := fun k => match k with
  | _ => .object "java/util/ArrayList"
abbrev wsX10 : List Cond := u_ws RX1 TX1 1
theorem nmX1 : ∀ a, a < 1 → ∀ b, b < 1 → a ≠ b → (TX1 a).2.1 ≠ (TX1 b).2.1 := by decide +kernel
theorem tyX1_ok : ∀ k, k < 1 → parseFieldDescriptor (TX1 k).2.2.1 = some (tyX1 k) := by decide +kernel
abbrev cX1_init : ByteArray := prog_3_method_1_code
def yX1_init : MethodName := ⟨RX1, "<init>", "()V"⟩
abbrev cX1_size : ByteArray := prog_3_method_2_code
def yX1_size : MethodName := ⟨RX1, "size", "()I"⟩
abbrev cX1_at : ByteArray := prog_3_method_3_code
def yX1_at : MethodName := ⟨RX1, "at", "(I)LPlainWords$Sentence;"⟩
abbrev cX1_clear : ByteArray := prog_3_method_4_code
def yX1_clear : MethodName := ⟨RX1, "clear", "()V"⟩
abbrev cX1_add : ByteArray := prog_3_method_5_code
def yX1_add : MethodName := ⟨RX1, "add", "(LPlainWords$Sentence;)V"⟩
abbrev cX1_become : ByteArray := prog_3_method_6_code
def yX1_become : MethodName := ⟨RX1, "become", "(LPlainWords$Letter;)V"⟩
abbrev cX1_partAt : ByteArray := prog_3_method_7_code
def yX1_partAt : MethodName := ⟨RX1, "partAt", "(I)Z"⟩
abbrev cX1_meltAt : ByteArray := prog_3_method_8_code
def yX1_meltAt : MethodName := ⟨RX1, "meltAt", "(I)Z"⟩
abbrev cX1_turnAt : ByteArray := prog_3_method_9_code
def yX1_turnAt : MethodName := ⟨RX1, "turnAt", "(I)Z"⟩
abbrev cX1_easeAt : ByteArray := prog_3_method_10_code
def yX1_easeAt : MethodName := ⟨RX1, "easeAt", "(I)Z"⟩
abbrev cX1_price : ByteArray := prog_3_method_11_code
def yX1_price : MethodName := ⟨RX1, "price", "()I"⟩
abbrev cX1_becomePlainest : ByteArray := prog_3_method_12_code
def yX1_becomePlainest : MethodName := ⟨RX1, "becomePlainest", "(LPlainWords$Letter;)V"⟩
abbrev cX1_addPlainest : ByteArray := prog_3_method_13_code
def yX1_addPlainest : MethodName := ⟨RX1, "addPlainest", "(LPlainWords$Sentence;)V"⟩
abbrev cX1_addWhole : ByteArray := prog_3_method_14_code
def yX1_addWhole : MethodName := ⟨RX1, "addWhole", "(LPlainWords$Sentence;Z)V"⟩
abbrev cX1_isWithin : ByteArray := prog_3_method_15_code
def yX1_isWithin : MethodName := ⟨RX1, "isWithin", "(LPlainWords$Letter;)Z"⟩
abbrev cX1_casesAsking : ByteArray := prog_3_method_16_code
def yX1_casesAsking : MethodName := ⟨RX1, "casesAsking", "(LPlainWords$Sentence;I)J"⟩
abbrev cX1_modesAsked : ByteArray := prog_3_method_17_code
def yX1_modesAsked : MethodName := ⟨RX1, "modesAsked", "(III)I"⟩
abbrev cX1_leastDays : ByteArray := prog_3_method_18_code
def yX1_leastDays : MethodName := ⟨RX1, "leastDays", "(III)I"⟩
def RX2 : String := "PlainWords$Reader"
def TX2 : u_T := fun k => match k with
  | 0 => ("PlainWords$Reader", "draft", "LPlainWords$Letter;", true)
  | 1 => ("PlainWords$Reader", "things", "LPlainWords$Things;", true)
  | 2 => ("PlainWords$Reader", "who", "I", false)
  | 3 => ("PlainWords$Reader", "mode", "I", false)
  | 4 => ("PlainWords$Reader", "acts", "[I", true)
  | _ => ("PlainWords$Reader", "actsRead", "I", false)
def tyX2 : Nat → FieldType := fun k => match k with
  | 0 => .object "PlainWords$Letter"
  | 1 => .object "PlainWords$Things"
  | 2 => .int
  | 3 => .int
  | 4 => .array .int
  | _ => .int
abbrev wsX20 : List Cond := u_ws RX2 TX2 6
theorem nmX2 : ∀ a, a < 6 → ∀ b, b < 6 → a ≠ b → (TX2 a).2.1 ≠ (TX2 b).2.1 := by decide +kernel
theorem tyX2_ok : ∀ k, k < 6 → parseFieldDescriptor (TX2 k).2.2.1 = some (tyX2 k) := by decide +kernel
abbrev cX2_init : ByteArray := prog_4_method_1_code
def yX2_init : MethodName := ⟨RX2, "<init>", "()V"⟩
abbrev cX2_read : ByteArray := prog_4_method_2_code
def yX2_read : MethodName := ⟨RX2, "read", "(LPlainWords$Tape;)Z"⟩
abbrev cX2_stoppedAt : ByteArray := prog_4_method_3_code
def yX2_stoppedAt : MethodName := ⟨RX2, "stoppedAt", "()I"⟩
abbrev cX2_readSentence : ByteArray := prog_4_method_4_code
def yX2_readSentence : MethodName := ⟨RX2, "readSentence", "()Z"⟩
abbrev cX2_readActive : ByteArray := prog_4_method_5_code
def yX2_readActive : MethodName := ⟨RX2, "readActive", "()Z"⟩
abbrev cX2_readPassive : ByteArray := prog_4_method_6_code
def yX2_readPassive : MethodName := ⟨RX2, "readPassive", "()Z"⟩
abbrev cX2_readWho : ByteArray := prog_4_method_7_code
def yX2_readWho : MethodName := ⟨RX2, "readWho", "()Z"⟩
abbrev cX2_readMode : ByteArray := prog_4_method_8_code
def yX2_readMode : MethodName := ⟨RX2, "readMode", "()Z"⟩
abbrev cX2_readActs : ByteArray := prog_4_method_9_code
def yX2_readActs : MethodName := ⟨RX2, "readActs", "()Z"⟩
abbrev cX2_readAct : ByteArray := prog_4_method_10_code
def yX2_readAct : MethodName := ⟨RX2, "readAct", "()Z"⟩
abbrev cX2_isTold : ByteArray := prog_4_method_11_code
def yX2_isTold : MethodName := ⟨RX2, "isTold", "(I)Z"⟩
abbrev cX2_actsTold : ByteArray := prog_4_method_12_code
def yX2_actsTold : MethodName := ⟨RX2, "actsTold", "()[I"⟩
abbrev cX2_readCond : ByteArray := prog_4_method_13_code
def yX2_readCond : MethodName := ⟨RX2, "readCond", "(I)LPlainWords$Cond;"⟩
abbrev cX2_readAll : ByteArray := prog_4_method_14_code
def yX2_readAll : MethodName := ⟨RX2, "readAll", "(I)LPlainWords$Cond;"⟩
abbrev cX2_readItem : ByteArray := prog_4_method_15_code
def yX2_readItem : MethodName := ⟨RX2, "readItem", "(I)LPlainWords$Cond;"⟩
def RX3 : String := "PlainWords$Sentence"
def TX3 : u_T := fun k => match k with
  | 0 => ("PlainWords$Sentence", "who", "I", true)
  | 1 => ("PlainWords$Sentence", "mode", "I", true)
  | 2 => ("PlainWords$Sentence", "limit", "I", true)
  | 3 => ("PlainWords$Sentence", "passive", "Z", true)
  | 4 => ("PlainWords$Sentence", "acts", "[I", true)
  | 5 => ("PlainWords$Sentence", "when", "LPlainWords$Cond;", true)
  | _ => ("PlainWords$Sentence", "unless", "LPlainWords$Cond;", true)
def tyX3 : Nat → FieldType := fun k => match k with
  | 0 => .int
  | 1 => .int
  | 2 => .int
  | 3 => .boolean
  | 4 => .array .int
  | 5 => .object "PlainWords$Cond"
  | _ => .object "PlainWords$Cond"
abbrev wsX30 : List Cond := u_ws RX3 TX3 7
theorem nmX3 : ∀ a, a < 7 → ∀ b, b < 7 → a ≠ b → (TX3 a).2.1 ≠ (TX3 b).2.1 := by decide +kernel
theorem tyX3_ok : ∀ k, k < 7 → parseFieldDescriptor (TX3 k).2.2.1 = some (tyX3 k) := by decide +kernel
abbrev cX3_init : ByteArray := prog_5_method_1_code
def yX3_init : MethodName := ⟨RX3, "<init>", "(IIIZ[ILPlainWords$Cond;LPlainWords$Cond;)V"⟩
abbrev cX3_withActs : ByteArray := prog_5_method_2_code
def yX3_withActs : MethodName := ⟨RX3, "withActs", "([I)LPlainWords$Sentence;"⟩
abbrev cX3_withAct : ByteArray := prog_5_method_3_code
def yX3_withAct : MethodName := ⟨RX3, "withAct", "(I)LPlainWords$Sentence;"⟩
abbrev cX3_canTurn : ByteArray := prog_5_method_4_code
def yX3_canTurn : MethodName := ⟨RX3, "canTurn", "()Z"⟩
abbrev cX3_turned : ByteArray := prog_5_method_5_code
def yX3_turned : MethodName := ⟨RX3, "turned", "()LPlainWords$Sentence;"⟩
abbrev cX3_canEase : ByteArray := prog_5_method_6_code
def yX3_canEase : MethodName := ⟨RX3, "canEase", "()Z"⟩
abbrev cX3_eased : ByteArray := prog_5_method_7_code
def yX3_eased : MethodName := ⟨RX3, "eased", "()LPlainWords$Sentence;"⟩
abbrev cX3_canMelt : ByteArray := prog_5_method_8_code
def yX3_canMelt : MethodName := ⟨RX3, "canMelt", "(LPlainWords$Sentence;)Z"⟩
abbrev cX3_melted : ByteArray := prog_5_method_9_code
def yX3_melted : MethodName := ⟨RX3, "melted", "(LPlainWords$Sentence;)LPlainWords$Sentence;"⟩
abbrev cX3_asksLike : ByteArray := prog_5_method_10_code
def yX3_asksLike : MethodName := ⟨RX3, "asksLike", "(LPlainWords$Sentence;)Z"⟩
abbrev cX3_names : ByteArray := prog_5_method_11_code
def yX3_names : MethodName := ⟨RX3, "names", "(I)Z"⟩
abbrev cX3_truth : ByteArray := prog_5_method_12_code
def yX3_truth : MethodName := ⟨RX3, "truth", "()J"⟩
abbrev cX3_asks : ByteArray := prog_5_method_13_code
def yX3_asks : MethodName := ⟨RX3, "asks", "(III)Z"⟩
abbrev cX3_words : ByteArray := prog_5_method_14_code
def yX3_words : MethodName := ⟨RX3, "words", "(I)I"⟩
abbrev cX3_nots : ByteArray := prog_5_method_15_code
def yX3_nots : MethodName := ⟨RX3, "nots", "()I"⟩
abbrev cX3_price : ByteArray := prog_5_method_16_code
def yX3_price : MethodName := ⟨RX3, "price", "(I)I"⟩
abbrev cX3_trait : ByteArray := prog_5_method_17_code
def yX3_trait : MethodName := ⟨RX3, "trait", "(I)I"⟩
def RX4 : String := "PlainWords$Tape"
def TX4 : u_T := fun k => match k with
  | 0 => ("PlainWords$Tape", "bytes", "[B", true)
  | _ => ("PlainWords$Tape", "size", "I", false)
def tyX4 : Nat → FieldType := fun k => match k with
  | 0 => .array .byte
  | _ => .int
abbrev wsX40 : List Cond := u_ws RX4 TX4 2
theorem nmX4 : ∀ a, a < 2 → ∀ b, b < 2 → a ≠ b → (TX4 a).2.1 ≠ (TX4 b).2.1 := by decide +kernel
theorem tyX4_ok : ∀ k, k < 2 → parseFieldDescriptor (TX4 k).2.2.1 = some (tyX4 k) := by decide +kernel
abbrev cX4_init : ByteArray := prog_6_method_1_code
def yX4_init : MethodName := ⟨RX4, "<init>", "()V"⟩
abbrev cX4_at : ByteArray := prog_6_method_2_code
def yX4_at : MethodName := ⟨RX4, "at", "(I)I"⟩
abbrev cX4_addNumber : ByteArray := prog_6_method_3_code
def yX4_addNumber : MethodName := ⟨RX4, "addNumber", "(I)V"⟩
abbrev cX4_cut : ByteArray := prog_6_method_4_code
def yX4_cut : MethodName := ⟨RX4, "cut", "(I)Z"⟩
abbrev cX4_become : ByteArray := prog_6_method_5_code
def yX4_become : MethodName := ⟨RX4, "become", "([BI)V"⟩
def RX5 : String := "PlainWords$Thing"
def TX5 : u_T := fun k => match k with
  | _ => ("", "", "", false)
def tyX5 : Nat → FieldType := fun k => match k with
  | _ => .int
abbrev wsX50 : List Cond := u_ws RX5 TX5 0
theorem nmX5 : ∀ a, a < 0 → ∀ b, b < 0 → a ≠ b → (TX5 a).2.1 ≠ (TX5 b).2.1 := by decide +kernel
theorem tyX5_ok : ∀ k, k < 0 → parseFieldDescriptor (TX5 k).2.2.1 = some (tyX5 k) := by decide +kernel
abbrev cX5_text : ByteArray := prog_7_method_2_code
def yX5_text : MethodName := ⟨RX5, "text", "(I)Ljava/lang/String;"⟩
abbrev cX5_sign : ByteArray := prog_7_method_3_code
def yX5_sign : MethodName := ⟨RX5, "sign", "(I)I"⟩
def RX6 : String := "PlainWords$Things"
def TX6 : u_T := fun k => match k with
  | 0 => ("PlainWords$Things", "kinds", "[I", true)
  | 1 => ("PlainWords$Things", "begins", "[I", true)
  | 2 => ("PlainWords$Things", "values", "[I", true)
  | 3 => ("PlainWords$Things", "size", "I", false)
  | 4 => ("PlainWords$Things", "textLength", "I", false)
  | _ => ("PlainWords$Things", "at", "I", false)
def tyX6 : Nat → FieldType := fun k => match k with
  | 0 => .array .int
  | 1 => .array .int
  | 2 => .array .int
  | 3 => .int
  | 4 => .int
  | _ => .int
abbrev wsX60 : List Cond := u_ws RX6 TX6 6
theorem nmX6 : ∀ a, a < 6 → ∀ b, b < 6 → a ≠ b → (TX6 a).2.1 ≠ (TX6 b).2.1 := by decide +kernel
theorem tyX6_ok : ∀ k, k < 6 → parseFieldDescriptor (TX6 k).2.2.1 = some (tyX6 k) := by decide +kernel
abbrev cX6_init : ByteArray := prog_8_method_1_code
def yX6_init : MethodName := ⟨RX6, "<init>", "()V"⟩
abbrev cX6_sees : ByteArray := prog_8_method_2_code
def yX6_sees : MethodName := ⟨RX6, "sees", "(I)Z"⟩
abbrev cX6_take : ByteArray := prog_8_method_3_code
def yX6_take : MethodName := ⟨RX6, "take", "(I)Z"⟩
abbrev cX6_takeNumber : ByteArray := prog_8_method_4_code
def yX6_takeNumber : MethodName := ⟨RX6, "takeNumber", "(II)I"⟩
abbrev cX6_value : ByteArray := prog_8_method_5_code
def yX6_value : MethodName := ⟨RX6, "value", "()I"⟩
abbrev cX6_begin : ByteArray := prog_8_method_6_code
def yX6_begin : MethodName := ⟨RX6, "begin", "()I"⟩
abbrev cX6_split : ByteArray := prog_8_method_7_code
def yX6_split : MethodName := ⟨RX6, "split", "(LPlainWords$Tape;)V"⟩
abbrev cX6_add : ByteArray := prog_8_method_8_code
def yX6_add : MethodName := ⟨RX6, "add", "(III)V"⟩
abbrev cX6_wordEnd : ByteArray := prog_8_method_9_code
def yX6_wordEnd : MethodName := ⟨RX6, "wordEnd", "(LPlainWords$Tape;I)I"⟩
abbrev cX6_wordIn : ByteArray := prog_8_method_10_code
def yX6_wordIn : MethodName := ⟨RX6, "wordIn", "(LPlainWords$Tape;II)I"⟩
abbrev cX6_stands : ByteArray := prog_8_method_11_code
def yX6_stands : MethodName := ⟨RX6, "stands", "(Ljava/lang/String;LPlainWords$Tape;II)Z"⟩
abbrev cX6_numberEnd : ByteArray := prog_8_method_12_code
def yX6_numberEnd : MethodName := ⟨RX6, "numberEnd", "(LPlainWords$Tape;I)I"⟩
abbrev cX6_numberIn : ByteArray := prog_8_method_13_code
def yX6_numberIn : MethodName := ⟨RX6, "numberIn", "(LPlainWords$Tape;II)I"⟩
abbrev cX6_isLetter : ByteArray := prog_8_method_14_code
def yX6_isLetter : MethodName := ⟨RX6, "isLetter", "(I)Z"⟩
abbrev cX6_isDigit : ByteArray := prog_8_method_15_code
def yX6_isDigit : MethodName := ⟨RX6, "isDigit", "(I)Z"⟩
def RX7 : String := "PlainWords$Writer"
def TX7 : u_T := fun k => match k with
  | 0 => ("PlainWords$Writer", "bytes", "[B", true)
  | 1 => ("PlainWords$Writer", "size", "I", false)
  | _ => ("PlainWords$Writer", "behindOpen", "Z", false)
def tyX7 : Nat → FieldType := fun k => match k with
  | 0 => .array .byte
  | 1 => .int
  | _ => .boolean
abbrev wsX70 : List Cond := u_ws RX7 TX7 3
theorem nmX7 : ∀ a, a < 3 → ∀ b, b < 3 → a ≠ b → (TX7 a).2.1 ≠ (TX7 b).2.1 := by decide +kernel
theorem tyX7_ok : ∀ k, k < 3 → parseFieldDescriptor (TX7 k).2.2.1 = some (tyX7 k) := by decide +kernel
abbrev cX7_init : ByteArray := prog_9_method_1_code
def yX7_init : MethodName := ⟨RX7, "<init>", "()V"⟩
abbrev cX7_writeLetter : ByteArray := prog_9_method_2_code
def yX7_writeLetter : MethodName := ⟨RX7, "writeLetter", "(LPlainWords$Letter;)V"⟩
abbrev cX7_writeSentence : ByteArray := prog_9_method_3_code
def yX7_writeSentence : MethodName := ⟨RX7, "writeSentence", "(LPlainWords$Sentence;)V"⟩
abbrev cX7_writeDone : ByteArray := prog_9_method_4_code
def yX7_writeDone : MethodName := ⟨RX7, "writeDone", "(I)V"⟩
abbrev cX7_writeMode : ByteArray := prog_9_method_5_code
def yX7_writeMode : MethodName := ⟨RX7, "writeMode", "(I)V"⟩
abbrev cX7_writeActs : ByteArray := prog_9_method_6_code
def yX7_writeActs : MethodName := ⟨RX7, "writeActs", "([I)V"⟩
abbrev cX7_writeCond : ByteArray := prog_9_method_7_code
def yX7_writeCond : MethodName := ⟨RX7, "writeCond", "(LPlainWords$Cond;I)V"⟩
abbrev cX7_writePiece : ByteArray := prog_9_method_8_code
def yX7_writePiece : MethodName := ⟨RX7, "writePiece", "(LPlainWords$Cond;II)V"⟩
abbrev cX7_writeWord : ByteArray := prog_9_method_9_code
def yX7_writeWord : MethodName := ⟨RX7, "writeWord", "(I)V"⟩
abbrev cX7_writeNumber : ByteArray := prog_9_method_10_code
def yX7_writeNumber : MethodName := ⟨RX7, "writeNumber", "(I)V"⟩
abbrev cX7_blank : ByteArray := prog_9_method_11_code
def yX7_blank : MethodName := ⟨RX7, "blank", "()V"⟩
abbrev cX7_put : ByteArray := prog_9_method_12_code
def yX7_put : MethodName := ⟨RX7, "put", "(I)V"⟩
def RX8 : String := "PlainWords"
def TX8 : u_T := fun k => match k with
  | 0 => ("PlainWords", "tape", "LPlainWords$Tape;", true)
  | 1 => ("PlainWords", "reader", "LPlainWords$Reader;", true)
  | 2 => ("PlainWords", "writer", "LPlainWords$Writer;", true)
  | 3 => ("PlainWords", "oldLetter", "LPlainWords$Letter;", true)
  | 4 => ("PlainWords", "newLetter", "LPlainWords$Letter;", true)
  | 5 => ("PlainWords", "wrongByte", "I", false)
  | 6 => ("PlainWords", "lettersRead", "I", false)
  | _ => ("PlainWords", "turnsDone", "I", false)
def tyX8 : Nat → FieldType := fun k => match k with
  | 0 => .object "PlainWords$Tape"
  | 1 => .object "PlainWords$Reader"
  | 2 => .object "PlainWords$Writer"
  | 3 => .object "PlainWords$Letter"
  | 4 => .object "PlainWords$Letter"
  | 5 => .int
  | 6 => .int
  | _ => .int
abbrev wsX80 : List Cond := u_ws RX8 TX8 8
theorem nmX8 : ∀ a, a < 8 → ∀ b, b < 8 → a ≠ b → (TX8 a).2.1 ≠ (TX8 b).2.1 := by decide +kernel
theorem tyX8_ok : ∀ k, k < 8 → parseFieldDescriptor (TX8 k).2.2.1 = some (tyX8 k) := by decide +kernel
abbrev cX8_init : ByteArray := prog_1_method_1_code
def yX8_init : MethodName := ⟨RX8, "<init>", "()V"⟩
abbrev cX8_feed : ByteArray := prog_1_method_2_code
def yX8_feed : MethodName := ⟨RX8, "feed", "(IIIII)I"⟩
abbrev cX8_end : ByteArray := prog_1_method_3_code
def yX8_end : MethodName := ⟨RX8, "end", "(I)Z"⟩
abbrev cX8_letter : ByteArray := prog_1_method_4_code
def yX8_letter : MethodName := ⟨RX8, "letter", "()I"⟩
abbrev cX8_fault : ByteArray := prog_1_method_5_code
def yX8_fault : MethodName := ⟨RX8, "fault", "()I"⟩
abbrev cX8_part : ByteArray := prog_1_method_6_code
def yX8_part : MethodName := ⟨RX8, "part", "(I)Z"⟩
abbrev cX8_melt : ByteArray := prog_1_method_7_code
def yX8_melt : MethodName := ⟨RX8, "melt", "(I)Z"⟩
abbrev cX8_turn : ByteArray := prog_1_method_8_code
def yX8_turn : MethodName := ⟨RX8, "turn", "(I)Z"⟩
abbrev cX8_ease : ByteArray := prog_1_method_9_code
def yX8_ease : MethodName := ⟨RX8, "ease", "(I)Z"⟩
abbrev cX8_plainest : ByteArray := prog_1_method_10_code
def yX8_plainest : MethodName := ⟨RX8, "plainest", "()I"⟩
abbrev cX8_again : ByteArray := prog_1_method_11_code
def yX8_again : MethodName := ⟨RX8, "again", "()V"⟩
abbrev cX8_cost : ByteArray := prog_1_method_12_code
def yX8_cost : MethodName := ⟨RX8, "cost", "(Z)I"⟩
abbrev cX8_look : ByteArray := prog_1_method_13_code
def yX8_look : MethodName := ⟨RX8, "look", "(II)I"⟩
abbrev cX8_same : ByteArray := prog_1_method_14_code
def yX8_same : MethodName := ⟨RX8, "same", "()Z"⟩
abbrev cX8_write : ByteArray := prog_1_method_15_code
def yX8_write : MethodName := ⟨RX8, "write", "()I"⟩
abbrev cX8_taped : ByteArray := prog_1_method_16_code
def yX8_taped : MethodName := ⟨RX8, "taped", "(I)I"⟩
abbrev cX8_ask : ByteArray := prog_1_method_17_code
def yX8_ask : MethodName := ⟨RX8, "ask", "(ZIII)I"⟩
abbrev cX8_days : ByteArray := prog_1_method_18_code
def yX8_days : MethodName := ⟨RX8, "days", "(III)I"⟩
abbrev cX8_count : ByteArray := prog_1_method_19_code
def yX8_count : MethodName := ⟨RX8, "count", "(I)I"⟩
abbrev cX8_needLetter : ByteArray := prog_1_method_20_code
def yX8_needLetter : MethodName := ⟨RX8, "needLetter", "()V"⟩
abbrev cX8_needSentence : ByteArray := prog_1_method_21_code
def yX8_needSentence : MethodName := ⟨RX8, "needSentence", "(I)V"⟩
abbrev cX8_chosen : ByteArray := prog_1_method_22_code
def yX8_chosen : MethodName := ⟨RX8, "chosen", "(Z)LPlainWords$Letter;"⟩
abbrev cX8_tallied : ByteArray := prog_1_method_23_code
def yX8_tallied : MethodName := ⟨RX8, "tallied", "(Z)Z"⟩
def RX9 : String := "PlainWordsModel"
def TX9 : u_T := fun k => match k with
  | 0 => ("PlainWordsModel", "thrown", "I", false)
  | 1 => ("PlainWordsModel", "acts", "[I", true)
  | 2 => ("PlainWordsModel", "act", "[I", true)
  | 3 => ("PlainWordsModel", "who", "[I", true)
  | 4 => ("PlainWordsModel", "mode", "[I", true)
  | 5 => ("PlainWordsModel", "days", "[I", true)
  | 6 => ("PlainWordsModel", "isPassive", "[Z", true)
  | 7 => ("PlainWordsModel", "length", "[I", true)
  | 8 => ("PlainWordsModel", "row", "[I", true)
  | 9 => ("PlainWordsModel", "old", "I", false)
  | 10 => ("PlainWordsModel", "fresh", "I", false)
  | 11 => ("PlainWordsModel", "letters", "I", false)
  | 12 => ("PlainWordsModel", "turns", "I", false)
  | 13 => ("PlainWordsModel", "hasLetter", "Z", false)
  | 14 => ("PlainWordsModel", "what", "[I", true)
  | 15 => ("PlainWordsModel", "first", "[I", true)
  | 16 => ("PlainWordsModel", "next", "[I", true)
  | 17 => ("PlainWordsModel", "places", "I", false)
  | 18 => ("PlainWordsModel", "at", "I", false)
  | 19 => ("PlainWordsModel", "laid", "I", false)
  | 20 => ("PlainWordsModel", "tape", "[B", true)
  | 21 => ("PlainWordsModel", "taped", "I", false)
  | 22 => ("PlainWordsModel", "point", "I", false)
  | 23 => ("PlainWordsModel", "end", "I", false)
  | 24 => ("PlainWordsModel", "begin", "I", false)
  | 25 => ("PlainWordsModel", "faultAt", "I", false)
  | 26 => ("PlainWordsModel", "deep", "I", false)
  | 27 => ("PlainWordsModel", "five", "[I", true)
  | 28 => ("PlainWordsModel", "out", "[B", true)
  | 29 => ("PlainWordsModel", "written", "I", false)
  | 30 => ("PlainWordsModel", "words", "I", false)
  | 31 => ("PlainWordsModel", "isOpen", "Z", false)
  | _ => ("PlainWordsModel", "tried", "I", false)
def tyX9 : Nat → FieldType := fun k => match k with
  | 0 => .int
  | 1 => .array .int
  | 2 => .array .int
  | 3 => .array .int
  | 4 => .array .int
  | 5 => .array .int
  | 6 => .array .boolean
  | 7 => .array .int
  | 8 => .array .int
  | 9 => .int
  | 10 => .int
  | 11 => .int
  | 12 => .int
  | 13 => .boolean
  | 14 => .array .int
  | 15 => .array .int
  | 16 => .array .int
  | 17 => .int
  | 18 => .int
  | 19 => .int
  | 20 => .array .byte
  | 21 => .int
  | 22 => .int
  | 23 => .int
  | 24 => .int
  | 25 => .int
  | 26 => .int
  | 27 => .array .int
  | 28 => .array .byte
  | 29 => .int
  | 30 => .int
  | 31 => .boolean
  | _ => .int
abbrev wsX90 : List Cond := u_ws RX9 TX9 33
theorem nmX9 : ∀ a, a < 33 → ∀ b, b < 33 → a ≠ b → (TX9 a).2.1 ≠ (TX9 b).2.1 := by decide +kernel
theorem tyX9_ok : ∀ k, k < 33 → parseFieldDescriptor (TX9 k).2.2.1 = some (tyX9 k) := by decide +kernel
abbrev cX9_init : ByteArray := prog_11_method_1_code
def yX9_init : MethodName := ⟨RX9, "<init>", "()V"⟩
abbrev cX9_thrown : ByteArray := prog_11_method_2_code
def yX9_thrown : MethodName := ⟨RX9, "thrown", "()I"⟩
abbrev cX9_throwsIf : ByteArray := prog_11_method_3_code
def yX9_throwsIf : MethodName := ⟨RX9, "throwsIf", "(ZI)Z"⟩
abbrev cX9_in : ByteArray := prog_11_method_4_code
def yX9_in : MethodName := ⟨RX9, "in", "(III)Z"⟩
abbrev cX9_copies : ByteArray := prog_11_method_5_code
def yX9_copies : MethodName := ⟨RX9, "copies", "(II)V"⟩
abbrev cX9_place : ByteArray := prog_11_method_6_code
def yX9_place : MethodName := ⟨RX9, "place", "(I)I"⟩
abbrev cX9_puts : ByteArray := prog_11_method_7_code
def yX9_puts : MethodName := ⟨RX9, "puts", "(II)V"⟩
abbrev cX9_tree : ByteArray := prog_11_method_8_code
def yX9_tree : MethodName := ⟨RX9, "tree", "(I)I"⟩
abbrev cX9_eased : ByteArray := prog_11_method_9_code
def yX9_eased : MethodName := ⟨RX9, "eased", "(I)I"⟩
abbrev cX9_size : ByteArray := prog_11_method_10_code
def yX9_size : MethodName := ⟨RX9, "size", "(II)I"⟩
abbrev cX9_lays : ByteArray := prog_11_method_11_code
def yX9_lays : MethodName := ⟨RX9, "lays", "(II)V"⟩
abbrev cX9_laysThose : ByteArray := prog_11_method_12_code
def yX9_laysThose : MethodName := ⟨RX9, "laysThose", "(III)V"⟩
abbrev cX9_laysAll : ByteArray := prog_11_method_13_code
def yX9_laysAll : MethodName := ⟨RX9, "laysAll", "(II)V"⟩
abbrev cX9_treeOf : ByteArray := prog_11_method_14_code
def yX9_treeOf : MethodName := ⟨RX9, "treeOf", "(I)I"⟩
abbrev cX9_feed : ByteArray := prog_11_method_15_code
def yX9_feed : MethodName := ⟨RX9, "feed", "(IIIII)I"⟩
abbrev cX9_end : ByteArray := prog_11_method_16_code
def yX9_end : MethodName := ⟨RX9, "end", "(I)Z"⟩
abbrev cX9_isAt : ByteArray := prog_11_method_17_code
def yX9_isAt : MethodName := ⟨RX9, "isAt", "(II)Z"⟩
abbrev cX9_blanks : ByteArray := prog_11_method_18_code
def yX9_blanks : MethodName := ⟨RX9, "blanks", "()V"⟩
abbrev cX9_word : ByteArray := prog_11_method_19_code
def yX9_word : MethodName := ⟨RX9, "word", "()V"⟩
abbrev cX9_isWord : ByteArray := prog_11_method_20_code
def yX9_isWord : MethodName := ⟨RX9, "isWord", "(Ljava/lang/String;)Z"⟩
abbrev cX9_passes : ByteArray := prog_11_method_21_code
def yX9_passes : MethodName := ⟨RX9, "passes", "(Ljava/lang/String;)Z"⟩
abbrev cX9_sign : ByteArray := prog_11_method_22_code
def yX9_sign : MethodName := ⟨RX9, "sign", "(I)Z"⟩
abbrev cX9_number : ByteArray := prog_11_method_23_code
def yX9_number : MethodName := ⟨RX9, "number", "(II)I"⟩
abbrev cX9_readItem : ByteArray := prog_11_method_24_code
def yX9_readItem : MethodName := ⟨RX9, "readItem", "()I"⟩
abbrev cX9_readAllOf : ByteArray := prog_11_method_25_code
def yX9_readAllOf : MethodName := ⟨RX9, "readAllOf", "()I"⟩
abbrev cX9_readCond : ByteArray := prog_11_method_26_code
def yX9_readCond : MethodName := ⟨RX9, "readCond", "()I"⟩
abbrev cX9_readInto : ByteArray := prog_11_method_27_code
def yX9_readInto : MethodName := ⟨RX9, "readInto", "(I)Z"⟩
abbrev cX9_readWho : ByteArray := prog_11_method_28_code
def yX9_readWho : MethodName := ⟨RX9, "readWho", "()I"⟩
abbrev cX9_readMode : ByteArray := prog_11_method_29_code
def yX9_readMode : MethodName := ⟨RX9, "readMode", "(I)Z"⟩
abbrev cX9_readActs : ByteArray := prog_11_method_30_code
def yX9_readActs : MethodName := ⟨RX9, "readActs", "(IZ)Z"⟩
abbrev cX9_readBody : ByteArray := prog_11_method_31_code
def yX9_readBody : MethodName := ⟨RX9, "readBody", "(I)Z"⟩
abbrev cX9_readSentence : ByteArray := prog_11_method_32_code
def yX9_readSentence : MethodName := ⟨RX9, "readSentence", "(I)Z"⟩
abbrev cX9_readAll : ByteArray := prog_11_method_33_code
def yX9_readAll : MethodName := ⟨RX9, "readAll", "()I"⟩
abbrev cX9_letter : ByteArray := prog_11_method_34_code
def yX9_letter : MethodName := ⟨RX9, "letter", "()I"⟩
abbrev cX9_renews : ByteArray := prog_11_method_35_code
def yX9_renews : MethodName := ⟨RX9, "renews", "()V"⟩
abbrev cX9_fault : ByteArray := prog_11_method_36_code
def yX9_fault : MethodName := ⟨RX9, "fault", "()I"⟩
abbrev cX9_put : ByteArray := prog_11_method_37_code
def yX9_put : MethodName := ⟨RX9, "put", "(Ljava/lang/String;Z)V"⟩
abbrev cX9_putWord : ByteArray := prog_11_method_38_code
def yX9_putWord : MethodName := ⟨RX9, "putWord", "(Ljava/lang/String;)V"⟩
abbrev cX9_putNumber : ByteArray := prog_11_method_39_code
def yX9_putNumber : MethodName := ⟨RX9, "putNumber", "(I)V"⟩
abbrev cX9_putOpen : ByteArray := prog_11_method_40_code
def yX9_putOpen : MethodName := ⟨RX9, "putOpen", "()V"⟩
abbrev cX9_putCond : ByteArray := prog_11_method_41_code
def yX9_putCond : MethodName := ⟨RX9, "putCond", "(II)V"⟩
abbrev cX9_putWho : ByteArray := prog_11_method_42_code
def yX9_putWho : MethodName := ⟨RX9, "putWho", "(I)V"⟩
abbrev cX9_putMode : ByteArray := prog_11_method_43_code
def yX9_putMode : MethodName := ⟨RX9, "putMode", "(I)V"⟩
abbrev cX9_putActs : ByteArray := prog_11_method_44_code
def yX9_putActs : MethodName := ⟨RX9, "putActs", "(I)V"⟩
abbrev cX9_putSentence : ByteArray := prog_11_method_45_code
def yX9_putSentence : MethodName := ⟨RX9, "putSentence", "(I)V"⟩
abbrev cX9_wordsOf : ByteArray := prog_11_method_46_code
def yX9_wordsOf : MethodName := ⟨RX9, "wordsOf", "(I)I"⟩
abbrev cX9_notsOf : ByteArray := prog_11_method_47_code
def yX9_notsOf : MethodName := ⟨RX9, "notsOf", "(I)I"⟩
abbrev cX9_costOf : ByteArray := prog_11_method_48_code
def yX9_costOf : MethodName := ⟨RX9, "costOf", "(I)I"⟩
abbrev cX9_costOfAll : ByteArray := prog_11_method_49_code
def yX9_costOfAll : MethodName := ⟨RX9, "costOfAll", "(II)I"⟩
abbrev cX9_cost : ByteArray := prog_11_method_50_code
def yX9_cost : MethodName := ⟨RX9, "cost", "(Z)I"⟩
abbrev cX9_write : ByteArray := prog_11_method_51_code
def yX9_write : MethodName := ⟨RX9, "write", "()I"⟩
abbrev cX9_taped : ByteArray := prog_11_method_52_code
def yX9_taped : MethodName := ⟨RX9, "taped", "(I)I"⟩
abbrev cX9_noSentence : ByteArray := prog_11_method_53_code
def yX9_noSentence : MethodName := ⟨RX9, "noSentence", "(I)Z"⟩
abbrev cX9_refuses : ByteArray := prog_11_method_54_code
def yX9_refuses : MethodName := ⟨RX9, "refuses", "(I)Z"⟩
abbrev cX9_part : ByteArray := prog_11_method_55_code
def yX9_part : MethodName := ⟨RX9, "part", "(I)Z"⟩
abbrev cX9_areAlike : ByteArray := prog_11_method_56_code
def yX9_areAlike : MethodName := ⟨RX9, "areAlike", "(II)Z"⟩
abbrev cX9_melt : ByteArray := prog_11_method_57_code
def yX9_melt : MethodName := ⟨RX9, "melt", "(I)Z"⟩
abbrev cX9_turnsRound : ByteArray := prog_11_method_58_code
def yX9_turnsRound : MethodName := ⟨RX9, "turnsRound", "(I)Z"⟩
abbrev cX9_turn : ByteArray := prog_11_method_59_code
def yX9_turn : MethodName := ⟨RX9, "turn", "(I)Z"⟩
abbrev cX9_eases : ByteArray := prog_11_method_60_code
def yX9_eases : MethodName := ⟨RX9, "eases", "(I)Z"⟩
abbrev cX9_ease : ByteArray := prog_11_method_61_code
def yX9_ease : MethodName := ⟨RX9, "ease", "(I)Z"⟩
abbrev cX9_again : ByteArray := prog_11_method_62_code
def yX9_again : MethodName := ⟨RX9, "again", "()V"⟩
abbrev cX9_tries : ByteArray := prog_11_method_63_code
def yX9_tries : MethodName := ⟨RX9, "tries", "(II)I"⟩
abbrev cX9_plainest : ByteArray := prog_11_method_64_code
def yX9_plainest : MethodName := ⟨RX9, "plainest", "()I"⟩
abbrev cX9_isFewer : ByteArray := prog_11_method_65_code
def yX9_isFewer : MethodName := ⟨RX9, "isFewer", "(II)Z"⟩
abbrev cX9_isSo : ByteArray := prog_11_method_66_code
def yX9_isSo : MethodName := ⟨RX9, "isSo", "(II)Z"⟩
abbrev cX9_counts : ByteArray := prog_11_method_67_code
def yX9_counts : MethodName := ⟨RX9, "counts", "(II)Z"⟩
abbrev cX9_hasAct : ByteArray := prog_11_method_68_code
def yX9_hasAct : MethodName := ⟨RX9, "hasAct", "(II)Z"⟩
abbrev cX9_asks : ByteArray := prog_11_method_69_code
def yX9_asks : MethodName := ⟨RX9, "asks", "(IIIIIII)Z"⟩
abbrev cX9_isWithin : ByteArray := prog_11_method_70_code
def yX9_isWithin : MethodName := ⟨RX9, "isWithin", "(IIII)Z"⟩
abbrev cX9_same : ByteArray := prog_11_method_71_code
def yX9_same : MethodName := ⟨RX9, "same", "()Z"⟩
abbrev cX9_ask : ByteArray := prog_11_method_72_code
def yX9_ask : MethodName := ⟨RX9, "ask", "(ZIII)I"⟩
abbrev cX9_days : ByteArray := prog_11_method_73_code
def yX9_days : MethodName := ⟨RX9, "days", "(III)I"⟩
abbrev cX9_look : ByteArray := prog_11_method_74_code
def yX9_look : MethodName := ⟨RX9, "look", "(II)I"⟩
abbrev cX9_count : ByteArray := prog_11_method_75_code
def yX9_count : MethodName := ⟨RX9, "count", "(I)I"⟩
def RJx145de : String := "java/io/Serializable"
def TJx145de : u_T := fun k => match k with
  | _ => ("", "", "", false)
def tyJx145de : Nat → FieldType := fun k => match k with
  | _ => .int
abbrev wsJx145de0 : List Cond := u_ws RJx145de TJx145de 0
theorem nmJx145de : ∀ a, a < 0 → ∀ b, b < 0 → a ≠ b → (TJx145de a).2.1 ≠ (TJx145de b).2.1 := by decide +kernel
theorem tyJx145de_ok : ∀ k, k < 0 → parseFieldDescriptor (TJx145de k).2.2.1 = some (tyJx145de k) := by decide +kernel
def RJ5 : String := "java/lang/AbstractStringBuilder"
def TJ5 : u_T := fun k => match k with
  | _ => ("", "", "", false)
def tyJ5 : Nat → FieldType := fun k => match k with
  | _ => .int
abbrev wsJ50 : List Cond := u_ws RJ5 TJ5 0
theorem nmJ5 : ∀ a, a < 0 → ∀ b, b < 0 → a ≠ b → (TJ5 a).2.1 ≠ (TJ5 b).2.1 := by decide +kernel
theorem tyJ5_ok : ∀ k, k < 0 → parseFieldDescriptor (TJ5 k).2.2.1 = some (tyJ5 k) := by decide +kernel
abbrev cJ5_init_d00df : ByteArray := prog_13_method_2_code
def yJ5_init_d00df : MethodName := ⟨RJ5, "<init>", "(I)V"⟩
abbrev cJ5_length_8abf5 : ByteArray := prog_13_method_6_code
def yJ5_length_8abf5 : MethodName := ⟨RJ5, "length", "()I"⟩
abbrev cJ5_ensureCapacityInternal_d00df : ByteArray := prog_13_method_9_code
def yJ5_ensureCapacityInternal_d00df : MethodName := ⟨RJ5, "ensureCapacityInternal", "(I)V"⟩
abbrev cJ5_newCapacity_0f7a4 : ByteArray := prog_13_method_10_code
def yJ5_newCapacity_0f7a4 : MethodName := ⟨RJ5, "newCapacity", "(I)I"⟩
abbrev cJ5_inflate_da8c8 : ByteArray := prog_13_method_11_code
def yJ5_inflate_da8c8 : MethodName := ⟨RJ5, "inflate", "()V"⟩
abbrev cJ5_append_cf1ce : ByteArray := prog_13_method_22_code
def yJ5_append_cf1ce : MethodName := ⟨RJ5, "append", "(Ljava/lang/String;)Ljava/lang/AbstractStringBuilder;"⟩
abbrev cJ5_appendNull_278bc : ByteArray := prog_13_method_26_code
def yJ5_appendNull_278bc : MethodName := ⟨RJ5, "appendNull", "()Ljava/lang/AbstractStringBuilder;"⟩
abbrev cJ5_append_c97b9 : ByteArray := prog_13_method_32_code
def yJ5_append_c97b9 : MethodName := ⟨RJ5, "append", "(I)Ljava/lang/AbstractStringBuilder;"⟩
abbrev cJ5_getValue_6d5f1 : ByteArray := prog_13_method_64_code
def yJ5_getValue_6d5f1 : MethodName := ⟨RJ5, "getValue", "()[B"⟩
abbrev cJ5_isLatin1_aae02 : ByteArray := prog_13_method_68_code
def yJ5_isLatin1_aae02 : MethodName := ⟨RJ5, "isLatin1", "()Z"⟩
abbrev cJ5_inflateIfNeededFor_a7421 : ByteArray := prog_13_method_71_code
def yJ5_inflateIfNeededFor_a7421 : MethodName := ⟨RJ5, "inflateIfNeededFor", "(Ljava/lang/String;)V"⟩
abbrev cJ5_putStringAt_47b60 : ByteArray := prog_13_method_73_code
def yJ5_putStringAt_47b60 : MethodName := ⟨RJ5, "putStringAt", "(ILjava/lang/String;)V"⟩
def RJx8e188 : String := "java/lang/Cloneable"
def TJx8e188 : u_T := fun k => match k with
  | _ => ("", "", "", false)
def tyJx8e188 : Nat → FieldType := fun k => match k with
  | _ => .int
abbrev wsJx8e1880 : List Cond := u_ws RJx8e188 TJx8e188 0
theorem nmJx8e188 : ∀ a, a < 0 → ∀ b, b < 0 → a ≠ b → (TJx8e188 a).2.1 ≠ (TJx8e188 b).2.1 := by decide +kernel
theorem tyJx8e188_ok : ∀ k, k < 0 → parseFieldDescriptor (TJx8e188 k).2.2.1 = some (tyJx8e188 k) := by decide +kernel
def RJ6 : String := "java/lang/Integer"
def TJ6 : u_T := fun k => match k with
  | _ => ("", "", "", false)
def tyJ6 : Nat → FieldType := fun k => match k with
  | _ => .int
abbrev wsJ60 : List Cond := u_ws RJ6 TJ6 0
theorem nmJ6 : ∀ a, a < 0 → ∀ b, b < 0 → a ≠ b → (TJ6 a).2.1 ≠ (TJ6 b).2.1 := by decide +kernel
theorem tyJ6_ok : ∀ k, k < 0 → parseFieldDescriptor (TJ6 k).2.2.1 = some (tyJ6 k) := by decide +kernel
abbrev cJ6_getChars_ba4f3 : ByteArray := prog_19_method_12_code
def yJ6_getChars_ba4f3 : MethodName := ⟨RJ6, "getChars", "(II[B)I"⟩
abbrev cJ6_stringSize_0f7a4 : ByteArray := prog_19_method_13_code
def yJ6_stringSize_0f7a4 : MethodName := ⟨RJ6, "stringSize", "(I)I"⟩
abbrev cJ6_bitCount_0f7a4 : ByteArray := prog_19_method_49_code
def yJ6_bitCount_0f7a4 : MethodName := ⟨RJ6, "bitCount", "(I)I"⟩
def RJxab1ab : String := "java/lang/Iterable"
def TJxab1ab : u_T := fun k => match k with
  | _ => ("", "", "", false)
def tyJxab1ab : Nat → FieldType := fun k => match k with
  | _ => .int
abbrev wsJxab1ab0 : List Cond := u_ws RJxab1ab TJxab1ab 0
theorem nmJxab1ab : ∀ a, a < 0 → ∀ b, b < 0 → a ≠ b → (TJxab1ab a).2.1 ≠ (TJxab1ab b).2.1 := by decide +kernel
theorem tyJxab1ab_ok : ∀ k, k < 0 → parseFieldDescriptor (TJxab1ab k).2.2.1 = some (tyJxab1ab k) := by decide +kernel
def RJ9 : String := "java/lang/Math"
def TJ9 : u_T := fun k => match k with
  | _ => ("", "", "", false)
def tyJ9 : Nat → FieldType := fun k => match k with
  | _ => .int
abbrev wsJ90 : List Cond := u_ws RJ9 TJ9 0
theorem nmJ9 : ∀ a, a < 0 → ∀ b, b < 0 → a ≠ b → (TJ9 a).2.1 ≠ (TJ9 b).2.1 := by decide +kernel
theorem tyJ9_ok : ∀ k, k < 0 → parseFieldDescriptor (TJ9 k).2.2.1 = some (tyJ9 k) := by decide +kernel
abbrev cJ9_max_7cf53 : ByteArray := prog_21_method_65_code
def yJ9_max_7cf53 : MethodName := ⟨RJ9, "max", "(II)I"⟩
abbrev cJ9_min_7cf53 : ByteArray := prog_21_method_69_code
def yJ9_min_7cf53 : MethodName := ⟨RJ9, "min", "(II)I"⟩
def RJ0 : String := "java/lang/String"
def TJ0 : u_T := fun k => match k with
  | 0 => ("java/lang/String", "value", "[B", true)
  | 1 => ("java/lang/String", "coder", "B", true)
  | 2 => ("java/lang/String", "hash", "I", false)
  | _ => ("java/lang/String", "hashIsZero", "Z", false)
def tyJ0 : Nat → FieldType := fun k => match k with
  | 0 => .array .byte
  | 1 => .byte
  | 2 => .int
  | _ => .boolean
abbrev wsJ00 : List Cond := u_ws RJ0 TJ0 4
theorem nmJ0 : ∀ a, a < 4 → ∀ b, b < 4 → a ≠ b → (TJ0 a).2.1 ≠ (TJ0 b).2.1 := by decide +kernel
theorem tyJ0_ok : ∀ k, k < 4 → parseFieldDescriptor (TJ0 k).2.2.1 = some (tyJ0 k) := by decide +kernel
abbrev cJ0_init_81219 : ByteArray := prog_23_method_53_code
def yJ0_init_81219 : MethodName := ⟨RJ0, "<init>", "(Ljava/lang/StringBuilder;)V"⟩
abbrev cJ0_length_8abf5 : ByteArray := prog_23_method_54_code
def yJ0_length_8abf5 : MethodName := ⟨RJ0, "length", "()I"⟩
abbrev cJ0_charAt_5068e : ByteArray := prog_23_method_56_code
def yJ0_charAt_5068e : MethodName := ⟨RJ0, "charAt", "(I)C"⟩
abbrev cJ0_getBytes_840e7 : ByteArray := prog_23_method_147_code
def yJ0_getBytes_840e7 : MethodName := ⟨RJ0, "getBytes", "([BIB)V"⟩
abbrev cJ0_init_db425 : ByteArray := prog_23_method_150_code
def yJ0_init_db425 : MethodName := ⟨RJ0, "<init>", "(Ljava/lang/AbstractStringBuilder;Ljava/lang/Void;)V"⟩
abbrev cJ0_coder_7d493 : ByteArray := prog_23_method_152_code
def yJ0_coder_7d493 : MethodName := ⟨RJ0, "coder", "()B"⟩
abbrev cJ0_isLatin1_aae02 : ByteArray := prog_23_method_154_code
def yJ0_isLatin1_aae02 : MethodName := ⟨RJ0, "isLatin1", "()Z"⟩
abbrev cJ0_checkIndex_df160 : ByteArray := prog_23_method_155_code
def yJ0_checkIndex_df160 : MethodName := ⟨RJ0, "checkIndex", "(II)V"⟩
abbrev cJ0_checkBoundsOffCount_cabcc : ByteArray := prog_23_method_157_code
def yJ0_checkBoundsOffCount_cabcc : MethodName := ⟨RJ0, "checkBoundsOffCount", "(III)I"⟩
abbrev cJ0_checkBoundsBeginEnd_23922 : ByteArray := prog_23_method_158_code
def yJ0_checkBoundsBeginEnd_23922 : MethodName := ⟨RJ0, "checkBoundsBeginEnd", "(III)V"⟩
def RJ4 : String := "java/lang/StringBuilder"
def TJ4 : u_T := fun k => match k with
  | 0 => ("java/lang/AbstractStringBuilder", "value", "[B", false)
  | 1 => ("java/lang/AbstractStringBuilder", "coder", "B", false)
  | 2 => ("java/lang/AbstractStringBuilder", "maybeLatin1", "Z", false)
  | _ => ("java/lang/AbstractStringBuilder", "count", "I", false)
def tyJ4 : Nat → FieldType := fun k => match k with
  | 0 => .array .byte
  | 1 => .byte
  | 2 => .boolean
  | _ => .int
abbrev wsJ40 : List Cond := u_ws RJ4 TJ4 4
theorem nmJ4 : ∀ a, a < 4 → ∀ b, b < 4 → a ≠ b → (TJ4 a).2.1 ≠ (TJ4 b).2.1 := by decide +kernel
theorem tyJ4_ok : ∀ k, k < 4 → parseFieldDescriptor (TJ4 k).2.2.1 = some (tyJ4 k) := by decide +kernel
abbrev cJ4_init_da8c8 : ByteArray := prog_24_method_1_code
def yJ4_init_da8c8 : MethodName := ⟨RJ4, "<init>", "()V"⟩
abbrev cJ4_append_15ec4 : ByteArray := prog_24_method_7_code
def yJ4_append_15ec4 : MethodName := ⟨RJ4, "append", "(Ljava/lang/String;)Ljava/lang/StringBuilder;"⟩
abbrev cJ4_append_bf812 : ByteArray := prog_24_method_15_code
def yJ4_append_bf812 : MethodName := ⟨RJ4, "append", "(I)Ljava/lang/StringBuilder;"⟩
abbrev cJ4_toString_0e30d : ByteArray := prog_24_method_42_code
def yJ4_toString_0e30d : MethodName := ⟨RJ4, "toString", "()Ljava/lang/String;"⟩
abbrev cJ4_length_8abf5 : ByteArray := prog_24_method_93_code
def yJ4_length_8abf5 : MethodName := ⟨RJ4, "length", "()I"⟩
def RJ1 : String := "java/lang/StringLatin1"
def TJ1 : u_T := fun k => match k with
  | _ => ("", "", "", false)
def tyJ1 : Nat → FieldType := fun k => match k with
  | _ => .int
abbrev wsJ10 : List Cond := u_ws RJ1 TJ1 0
theorem nmJ1 : ∀ a, a < 0 → ∀ b, b < 0 → a ≠ b → (TJ1 a).2.1 ≠ (TJ1 b).2.1 := by decide +kernel
theorem tyJ1_ok : ∀ k, k < 0 → parseFieldDescriptor (TJ1 k).2.2.1 = some (tyJ1 k) := by decide +kernel
abbrev cJ1_charAt_3b067 : ByteArray := prog_25_method_2_code
def yJ1_charAt_3b067 : MethodName := ⟨RJ1, "charAt", "([BI)C"⟩
abbrev cJ1_inflate_0e8fd : ByteArray := prog_25_method_50_code
def yJ1_inflate_0e8fd : MethodName := ⟨RJ1, "inflate", "([BI[BII)V"⟩
def RJ2 : String := "java/lang/StringUTF16"
def TJ2 : u_T := fun k => match k with
  | _ => ("", "", "", false)
def tyJ2 : Nat → FieldType := fun k => match k with
  | _ => .int
abbrev wsJ20 : List Cond := u_ws RJ2 TJ2 0
theorem nmJ2 : ∀ a, a < 0 → ∀ b, b < 0 → a ≠ b → (TJ2 a).2.1 ≠ (TJ2 b).2.1 := by decide +kernel
theorem tyJ2_ok : ∀ k, k < 0 → parseFieldDescriptor (TJ2 k).2.2.1 = some (tyJ2 k) := by decide +kernel
abbrev cJ2_newBytesFor_77867 : ByteArray := prog_26_method_2_code
def yJ2_newBytesFor_77867 : MethodName := ⟨RJ2, "newBytesFor", "(I)[B"⟩
abbrev cJ2_newBytesLength_0f7a4 : ByteArray := prog_26_method_3_code
def yJ2_newBytesLength_0f7a4 : MethodName := ⟨RJ2, "newBytesLength", "(I)I"⟩
abbrev cJ2_putChar_b72d1 : ByteArray := prog_26_method_4_code
def yJ2_putChar_b72d1 : MethodName := ⟨RJ2, "putChar", "([BII)V"⟩
abbrev cJ2_getChar_3b067 : ByteArray := prog_26_method_5_code
def yJ2_getChar_3b067 : MethodName := ⟨RJ2, "getChar", "([BI)C"⟩
abbrev cJ2_length_9d52b : ByteArray := prog_26_method_6_code
def yJ2_length_9d52b : MethodName := ⟨RJ2, "length", "([B)I"⟩
abbrev cJ2_coderFromArrayLen_85cad : ByteArray := prog_26_method_15_code
def yJ2_coderFromArrayLen_85cad : MethodName := ⟨RJ2, "coderFromArrayLen", "([BI)B"⟩
abbrev cJ2_compress_39247 : ByteArray := prog_26_method_17_code
def yJ2_compress_39247 : MethodName := ⟨RJ2, "compress", "([BII)[B"⟩
abbrev cJ2_compress_5af95 : ByteArray := prog_26_method_22_code
def yJ2_compress_5af95 : MethodName := ⟨RJ2, "compress", "([BI[BII)I"⟩
abbrev cJ2_getChars_46870 : ByteArray := prog_26_method_77_code
def yJ2_getChars_46870 : MethodName := ⟨RJ2, "getChars", "(III[B)I"⟩
abbrev cJ2_putCharsAt_cd4e5 : ByteArray := prog_26_method_81_code
def yJ2_putCharsAt_cd4e5 : MethodName := ⟨RJ2, "putCharsAt", "([BICCCC)I"⟩
abbrev cJ2_charAt_3b067 : ByteArray := prog_26_method_83_code
def yJ2_charAt_3b067 : MethodName := ⟨RJ2, "charAt", "([BI)C"⟩
abbrev cJ2_inflate_0e8fd : ByteArray := prog_26_method_86_code
def yJ2_inflate_0e8fd : MethodName := ⟨RJ2, "inflate", "([BI[BII)V"⟩
abbrev cJ2_getChars_ba4f3 : ByteArray := prog_26_method_89_code
def yJ2_getChars_ba4f3 : MethodName := ⟨RJ2, "getChars", "(II[B)I"⟩
abbrev cJ2_checkIndex_2214a : ByteArray := prog_26_method_91_code
def yJ2_checkIndex_2214a : MethodName := ⟨RJ2, "checkIndex", "(I[B)V"⟩
abbrev cJ2_checkBoundsBeginEnd_d044e : ByteArray := prog_26_method_93_code
def yJ2_checkBoundsBeginEnd_d044e : MethodName := ⟨RJ2, "checkBoundsBeginEnd", "(II[B)V"⟩
abbrev cJ2_checkBoundsOffCount_d044e : ByteArray := prog_26_method_94_code
def yJ2_checkBoundsOffCount_d044e : MethodName := ⟨RJ2, "checkBoundsOffCount", "(II[B)V"⟩
def RJ10 : String := "java/lang/System"
def TJ10 : u_T := fun k => match k with
  | _ => ("", "", "", false)
def tyJ10 : Nat → FieldType := fun k => match k with
  | _ => .int
abbrev wsJ100 : List Cond := u_ws RJ10 TJ10 0
theorem nmJ10 : ∀ a, a < 0 → ∀ b, b < 0 → a ≠ b → (TJ10 a).2.1 ≠ (TJ10 b).2.1 := by decide +kernel
theorem tyJ10_ok : ∀ k, k < 0 → parseFieldDescriptor (TJ10 k).2.2.1 = some (tyJ10 k) := by decide +kernel
def RJxa1e45 : String := "java/util/AbstractCollection"
def TJxa1e45 : u_T := fun k => match k with
  | _ => ("", "", "", false)
def tyJxa1e45 : Nat → FieldType := fun k => match k with
  | _ => .int
abbrev wsJxa1e450 : List Cond := u_ws RJxa1e45 TJxa1e45 0
theorem nmJxa1e45 : ∀ a, a < 0 → ∀ b, b < 0 → a ≠ b → (TJxa1e45 a).2.1 ≠ (TJxa1e45 b).2.1 := by decide +kernel
theorem tyJxa1e45_ok : ∀ k, k < 0 → parseFieldDescriptor (TJxa1e45 k).2.2.1 = some (tyJxa1e45 k) := by decide +kernel
abbrev cJxa1e45_init_da8c8 : ByteArray := prog_29_method_1_code
def yJxa1e45_init_da8c8 : MethodName := ⟨RJxa1e45, "<init>", "()V"⟩
def RJxc12de : String := "java/util/AbstractList"
def TJxc12de : u_T := fun k => match k with
  | _ => ("", "", "", false)
def tyJxc12de : Nat → FieldType := fun k => match k with
  | _ => .int
abbrev wsJxc12de0 : List Cond := u_ws RJxc12de TJxc12de 0
theorem nmJxc12de : ∀ a, a < 0 → ∀ b, b < 0 → a ≠ b → (TJxc12de a).2.1 ≠ (TJxc12de b).2.1 := by decide +kernel
theorem tyJxc12de_ok : ∀ k, k < 0 → parseFieldDescriptor (TJxc12de k).2.2.1 = some (tyJxc12de k) := by decide +kernel
abbrev cJxc12de_init_da8c8 : ByteArray := prog_30_method_1_code
def yJxc12de_init_da8c8 : MethodName := ⟨RJxc12de, "<init>", "()V"⟩
def RJx4a65c : String := "java/util/ArrayList"
def TJx4a65c : u_T := fun k => match k with
  | 0 => ("java/util/AbstractList", "modCount", "I", false)
  | 1 => ("java/util/ArrayList", "elementData", "[Ljava/lang/Object;", false)
  | _ => ("java/util/ArrayList", "size", "I", false)
def tyJx4a65c : Nat → FieldType := fun k => match k with
  | 0 => .int
  | 1 => .array (.object "java/lang/Object")
  | _ => .int
abbrev wsJx4a65c0 : List Cond := u_ws RJx4a65c TJx4a65c 3
theorem nmJx4a65c : ∀ a, a < 3 → ∀ b, b < 3 → a ≠ b → (TJx4a65c a).2.1 ≠ (TJx4a65c b).2.1 := by decide +kernel
theorem tyJx4a65c_ok : ∀ k, k < 3 → parseFieldDescriptor (TJx4a65c k).2.2.1 = some (tyJx4a65c k) := by decide +kernel
abbrev cJx4a65c_init_da8c8 : ByteArray := prog_31_method_2_code
def yJx4a65c_init_da8c8 : MethodName := ⟨RJx4a65c, "<init>", "()V"⟩
abbrev cJx4a65c_grow_92f84 : ByteArray := prog_31_method_6_code
def yJx4a65c_grow_92f84 : MethodName := ⟨RJx4a65c, "grow", "(I)[Ljava/lang/Object;"⟩
abbrev cJx4a65c_grow_d5877 : ByteArray := prog_31_method_7_code
def yJx4a65c_grow_d5877 : MethodName := ⟨RJx4a65c, "grow", "()[Ljava/lang/Object;"⟩
abbrev cJx4a65c_size_8abf5 : ByteArray := prog_31_method_8_code
def yJx4a65c_size_8abf5 : MethodName := ⟨RJx4a65c, "size", "()I"⟩
abbrev cJx4a65c_elementData_915e3 : ByteArray := prog_31_method_18_code
def yJx4a65c_elementData_915e3 : MethodName := ⟨RJx4a65c, "elementData", "(I)Ljava/lang/Object;"⟩
abbrev cJx4a65c_get_915e3 : ByteArray := prog_31_method_20_code
def yJx4a65c_get_915e3 : MethodName := ⟨RJx4a65c, "get", "(I)Ljava/lang/Object;"⟩
abbrev cJx4a65c_set_bcc79 : ByteArray := prog_31_method_23_code
def yJx4a65c_set_bcc79 : MethodName := ⟨RJx4a65c, "set", "(ILjava/lang/Object;)Ljava/lang/Object;"⟩
abbrev cJx4a65c_add_72be8 : ByteArray := prog_31_method_24_code
def yJx4a65c_add_72be8 : MethodName := ⟨RJx4a65c, "add", "(Ljava/lang/Object;[Ljava/lang/Object;I)V"⟩
abbrev cJx4a65c_add_9ea2d : ByteArray := prog_31_method_25_code
def yJx4a65c_add_9ea2d : MethodName := ⟨RJx4a65c, "add", "(Ljava/lang/Object;)Z"⟩
abbrev cJx4a65c_add_7a177 : ByteArray := prog_31_method_26_code
def yJx4a65c_add_7a177 : MethodName := ⟨RJx4a65c, "add", "(ILjava/lang/Object;)V"⟩
abbrev cJx4a65c_remove_915e3 : ByteArray := prog_31_method_29_code
def yJx4a65c_remove_915e3 : MethodName := ⟨RJx4a65c, "remove", "(I)Ljava/lang/Object;"⟩
abbrev cJx4a65c_fastRemove_b59b0 : ByteArray := prog_31_method_39_code
def yJx4a65c_fastRemove_b59b0 : MethodName := ⟨RJx4a65c, "fastRemove", "([Ljava/lang/Object;I)V"⟩
abbrev cJx4a65c_clear_da8c8 : ByteArray := prog_31_method_40_code
def yJx4a65c_clear_da8c8 : MethodName := ⟨RJx4a65c, "clear", "()V"⟩
abbrev cJx4a65c_rangeCheckForAdd_d00df : ByteArray := prog_31_method_45_code
def yJx4a65c_rangeCheckForAdd_d00df : MethodName := ⟨RJx4a65c, "rangeCheckForAdd", "(I)V"⟩
abbrev cJx4a65c_outOfBoundsMsg_b52d3 : ByteArray := prog_31_method_46_code
def yJx4a65c_outOfBoundsMsg_b52d3 : MethodName := ⟨RJx4a65c, "outOfBoundsMsg", "(I)Ljava/lang/String;"⟩
def RJ7 : String := "java/util/Arrays"
def TJ7 : u_T := fun k => match k with
  | _ => ("", "", "", false)
def tyJ7 : Nat → FieldType := fun k => match k with
  | _ => .int
abbrev wsJ70 : List Cond := u_ws RJ7 TJ7 0
theorem nmJ7 : ∀ a, a < 0 → ∀ b, b < 0 → a ≠ b → (TJ7 a).2.1 ≠ (TJ7 b).2.1 := by decide +kernel
theorem tyJ7_ok : ∀ k, k < 0 → parseFieldDescriptor (TJ7 k).2.2.1 = some (tyJ7 k) := by decide +kernel
abbrev cJ7_copyOf_1904c : ByteArray := prog_32_method_119_code
def yJ7_copyOf_1904c : MethodName := ⟨RJ7, "copyOf", "([Ljava/lang/Object;I)[Ljava/lang/Object;"⟩
abbrev cJ7_copyOf_6403c : ByteArray := prog_32_method_120_code
def yJ7_copyOf_6403c : MethodName := ⟨RJ7, "copyOf", "([Ljava/lang/Object;ILjava/lang/Class;)[Ljava/lang/Object;"⟩
abbrev cJ7_copyOf_9075b : ByteArray := prog_32_method_121_code
def yJ7_copyOf_9075b : MethodName := ⟨RJ7, "copyOf", "([BI)[B"⟩
abbrev cJ7_checkLength_df160 : ByteArray := prog_32_method_131_code
def yJ7_checkLength_df160 : MethodName := ⟨RJ7, "checkLength", "(II)V"⟩
abbrev cJ7_copyOfRange_39247 : ByteArray := prog_32_method_132_code
def yJ7_copyOfRange_39247 : MethodName := ⟨RJ7, "copyOfRange", "([BII)[B"⟩
abbrev cJ7_copyOfRangeByte_39247 : ByteArray := prog_32_method_133_code
def yJ7_copyOfRangeByte_39247 : MethodName := ⟨RJ7, "copyOfRangeByte", "([BII)[B"⟩
def RJx5ef63 : String := "java/util/Collection"
def TJx5ef63 : u_T := fun k => match k with
  | _ => ("", "", "", false)
def tyJx5ef63 : Nat → FieldType := fun k => match k with
  | _ => .int
abbrev wsJx5ef630 : List Cond := u_ws RJx5ef63 TJx5ef63 0
theorem nmJx5ef63 : ∀ a, a < 0 → ∀ b, b < 0 → a ≠ b → (TJx5ef63 a).2.1 ≠ (TJx5ef63 b).2.1 := by decide +kernel
theorem tyJx5ef63_ok : ∀ k, k < 0 → parseFieldDescriptor (TJx5ef63 k).2.2.1 = some (tyJx5ef63 k) := by decide +kernel
def RJxbd725 : String := "java/util/List"
def TJxbd725 : u_T := fun k => match k with
  | _ => ("", "", "", false)
def tyJxbd725 : Nat → FieldType := fun k => match k with
  | _ => .int
abbrev wsJxbd7250 : List Cond := u_ws RJxbd725 TJxbd725 0
theorem nmJxbd725 : ∀ a, a < 0 → ∀ b, b < 0 → a ≠ b → (TJxbd725 a).2.1 ≠ (TJxbd725 b).2.1 := by decide +kernel
theorem tyJxbd725_ok : ∀ k, k < 0 → parseFieldDescriptor (TJxbd725 k).2.2.1 = some (tyJxbd725 k) := by decide +kernel
def RJ15 : String := "java/util/Objects"
def TJ15 : u_T := fun k => match k with
  | _ => ("", "", "", false)
def tyJ15 : Nat → FieldType := fun k => match k with
  | _ => .int
abbrev wsJ150 : List Cond := u_ws RJ15 TJ15 0
theorem nmJ15 : ∀ a, a < 0 → ∀ b, b < 0 → a ≠ b → (TJ15 a).2.1 ≠ (TJ15 b).2.1 := by decide +kernel
theorem tyJ15_ok : ∀ k, k < 0 → parseFieldDescriptor (TJ15 k).2.2.1 = some (tyJ15 k) := by decide +kernel
abbrev cJ15_checkIndex_7cf53 : ByteArray := prog_36_method_17_code
def yJ15_checkIndex_7cf53 : MethodName := ⟨RJ15, "checkIndex", "(II)I"⟩
def RJxf0a74 : String := "java/util/RandomAccess"
def TJxf0a74 : u_T := fun k => match k with
  | _ => ("", "", "", false)
def tyJxf0a74 : Nat → FieldType := fun k => match k with
  | _ => .int
abbrev wsJxf0a740 : List Cond := u_ws RJxf0a74 TJxf0a74 0
theorem nmJxf0a74 : ∀ a, a < 0 → ∀ b, b < 0 → a ≠ b → (TJxf0a74 a).2.1 ≠ (TJxf0a74 b).2.1 := by decide +kernel
theorem tyJxf0a74_ok : ∀ k, k < 0 → parseFieldDescriptor (TJxf0a74 k).2.2.1 = some (tyJxf0a74 k) := by decide +kernel
def RJxa66e6 : String := "java/util/SequencedCollection"
def TJxa66e6 : u_T := fun k => match k with
  | _ => ("", "", "", false)
def tyJxa66e6 : Nat → FieldType := fun k => match k with
  | _ => .int
abbrev wsJxa66e60 : List Cond := u_ws RJxa66e6 TJxa66e6 0
theorem nmJxa66e6 : ∀ a, a < 0 → ∀ b, b < 0 → a ≠ b → (TJxa66e6 a).2.1 ≠ (TJxa66e6 b).2.1 := by decide +kernel
theorem tyJxa66e6_ok : ∀ k, k < 0 → parseFieldDescriptor (TJxa66e6 k).2.2.1 = some (tyJxa66e6 k) := by decide +kernel
def RJ8 : String := "jdk/internal/util/ArraysSupport"
def TJ8 : u_T := fun k => match k with
  | _ => ("", "", "", false)
def tyJ8 : Nat → FieldType := fun k => match k with
  | _ => .int
abbrev wsJ80 : List Cond := u_ws RJ8 TJ8 0
theorem nmJ8 : ∀ a, a < 0 → ∀ b, b < 0 → a ≠ b → (TJ8 a).2.1 ≠ (TJ8 b).2.1 := by decide +kernel
theorem tyJ8_ok : ∀ k, k < 0 → parseFieldDescriptor (TJ8 k).2.2.1 = some (tyJ8 k) := by decide +kernel
abbrev cJ8_newLength_cabcc : ByteArray := prog_39_method_27_code
def yJ8_newLength_cabcc : MethodName := ⟨RJ8, "newLength", "(III)I"⟩
abbrev cJ8_hugeLength_7cf53 : ByteArray := prog_39_method_28_code
def yJ8_hugeLength_7cf53 : MethodName := ⟨RJ8, "hugeLength", "(II)I"⟩
def RJ3 : String := "jdk/internal/util/Preconditions"
def TJ3 : u_T := fun k => match k with
  | _ => ("", "", "", false)
def tyJ3 : Nat → FieldType := fun k => match k with
  | _ => .int
abbrev wsJ30 : List Cond := u_ws RJ3 TJ3 0
theorem nmJ3 : ∀ a, a < 0 → ∀ b, b < 0 → a ≠ b → (TJ3 a).2.1 ≠ (TJ3 b).2.1 := by decide +kernel
theorem tyJ3_ok : ∀ k, k < 0 → parseFieldDescriptor (TJ3 k).2.2.1 = some (tyJ3 k) := by decide +kernel
abbrev cJ3_checkIndex_8e157 : ByteArray := prog_40_method_11_code
def yJ3_checkIndex_8e157 : MethodName := ⟨RJ3, "checkIndex", "(IILjava/util/function/BiFunction;)I"⟩
abbrev cJ3_checkFromToIndex_8c36e : ByteArray := prog_40_method_12_code
def yJ3_checkFromToIndex_8c36e : MethodName := ⟨RJ3, "checkFromToIndex", "(IIILjava/util/function/BiFunction;)I"⟩
abbrev cJ3_checkFromIndexSize_8c36e : ByteArray := prog_40_method_13_code
def yJ3_checkFromIndexSize_8c36e : MethodName := ⟨RJ3, "checkFromIndexSize", "(IIILjava/util/function/BiFunction;)I"⟩
def RL : String := "PlainWordsLaw"
abbrev cL_letter : ByteArray := method_3_code
def yL_letter : MethodName := ⟨RL, "letter", "(LPlainWords;[J)I"⟩
abbrev cL_part : ByteArray := method_4_code
def yL_part : MethodName := ⟨RL, "part", "(LPlainWords;I[J)I"⟩
abbrev cL_melt : ByteArray := method_5_code
def yL_melt : MethodName := ⟨RL, "melt", "(LPlainWords;I[J)I"⟩
abbrev cL_turn : ByteArray := method_6_code
def yL_turn : MethodName := ⟨RL, "turn", "(LPlainWords;I[J)I"⟩
abbrev cL_ease : ByteArray := method_7_code
def yL_ease : MethodName := ⟨RL, "ease", "(LPlainWords;I[J)I"⟩
abbrev cL_plainest : ByteArray := method_8_code
def yL_plainest : MethodName := ⟨RL, "plainest", "(LPlainWords;[J)I"⟩
abbrev cL_again : ByteArray := method_9_code
def yL_again : MethodName := ⟨RL, "again", "(LPlainWords;)I"⟩
abbrev cL_cost : ByteArray := method_10_code
def yL_cost : MethodName := ⟨RL, "cost", "(LPlainWords;Z[J)I"⟩
abbrev cL_look : ByteArray := method_11_code
def yL_look : MethodName := ⟨RL, "look", "(LPlainWords;II[J)I"⟩
abbrev cL_same : ByteArray := method_12_code
def yL_same : MethodName := ⟨RL, "same", "(LPlainWords;[J)I"⟩
abbrev cL_write : ByteArray := method_13_code
def yL_write : MethodName := ⟨RL, "write", "(LPlainWords;[J)I"⟩
abbrev cL_ask : ByteArray := method_14_code
def yL_ask : MethodName := ⟨RL, "ask", "(LPlainWords;ZIII[J)I"⟩
abbrev cL_days : ByteArray := method_15_code
def yL_days : MethodName := ⟨RL, "days", "(LPlainWords;III[J)I"⟩
abbrev cL_law : ByteArray := code
def yL_law : MethodName := ⟨RL, "law", "([I)Z"⟩
abbrev vwCl : List vw_C := [(RJ0, TJ0, 4), (RJ4, TJ4, 4), (RJx4a65c, TJx4a65c, 3), (RX0, TX0, 7), (RX1, TX1, 1), (RX2, TX2, 6), (RX3, TX3, 7), (RX4, TX4, 2), (RX6, TX6, 6), (RX7, TX7, 3), (RX8, TX8, 8), (RX9, TX9, 33)]
def wsL_law0_r1 : List Cond := [Cond.classLink RL 8 RX8, Cond.instantiable RX8 8, Cond.initialized RX8, Cond.classLink RL 64 RX9, Cond.instantiable RX9 33, Cond.initialized RX9, Cond.arrayClass .long, Cond.methodLink RL 63 yX8_init, Cond.instanceMethod yX8_init, Cond.code yX8_init cX8_init 1 none, Cond.methodLink RX8 1 objectInit, Cond.instanceMethod objectInit, Cond.code objectInit ⟨#[0xb1]⟩ 1 none, Cond.classLink RX8 7 RX4, Cond.instantiable RX4 2, Cond.initialized RX4, Cond.fieldLink RX8 10 "PlainWords" "tape" "LPlainWords$Tape;", Cond.classLink RX8 16 RX2, Cond.instantiable RX2 6, Cond.initialized RX2, Cond.fieldLink RX8 19 "PlainWords" "reader" "LPlainWords$Reader;", Cond.classLink RX8 23 RX7, Cond.instantiable RX7 3, Cond.initialized RX7]
def wsL_law0_r2 : List Cond := [Cond.fieldLink RX8 26 "PlainWords" "writer" "LPlainWords$Writer;", Cond.classLink RX8 30 RX1, Cond.instantiable RX1 1, Cond.initialized RX1, Cond.fieldLink RX8 33 "PlainWords" "oldLetter" "LPlainWords$Letter;", Cond.fieldLink RX8 37 "PlainWords" "newLetter" "LPlainWords$Letter;", Cond.fieldLink RX8 40 "PlainWords" "wrongByte" "I", Cond.fieldLink RX8 44 "PlainWords" "lettersRead" "I", Cond.fieldLink RX8 47 "PlainWords" "turnsDone" "I", Cond.methodLink RX8 9 yX4_init, Cond.instanceMethod yX4_init, Cond.code yX4_init cX4_init 1 none, Cond.methodLink RX4 3 objectInit, Cond.arrayClass .byte, Cond.fieldLink RX4 11 "PlainWords$Tape" "bytes" "[B", Cond.fieldLink RX4 15 "PlainWords$Tape" "size" "I", Cond.methodLink RX8 18 yX2_init, Cond.instanceMethod yX2_init, Cond.code yX2_init cX2_init 1 none, Cond.methodLink RX2 3 objectInit, Cond.classLink RX2 9 RX1, Cond.fieldLink RX2 12 "PlainWords$Reader" "draft" "LPlainWords$Letter;", Cond.classLink RX2 18 RX6, Cond.instantiable RX6 6]
def wsL_law0_r3 : List Cond := [Cond.initialized RX6, Cond.fieldLink RX2 21 "PlainWords$Reader" "things" "LPlainWords$Things;", Cond.arrayClass .int, Cond.fieldLink RX2 27 "PlainWords$Reader" "acts" "[I", Cond.fieldLink RX2 31 "PlainWords$Reader" "who" "I", Cond.fieldLink RX2 35 "PlainWords$Reader" "mode" "I", Cond.fieldLink RX2 38 "PlainWords$Reader" "actsRead" "I", Cond.methodLink RX2 11 yX1_init, Cond.instanceMethod yX1_init, Cond.code yX1_init cX1_init 1 none, Cond.methodLink RX1 3 objectInit, Cond.classLink RX1 9 RJx4a65c, Cond.instantiable RJx4a65c 3, Cond.initialized RJx4a65c, Cond.fieldLink RX1 12 "PlainWords$Letter" "sentences" "Ljava/util/ArrayList;", Cond.methodLink RX1 11 yJx4a65c_init_da8c8, Cond.instanceMethod yJx4a65c_init_da8c8, Cond.code yJx4a65c_init_da8c8 cJx4a65c_init_da8c8 1 none, Cond.fieldLink RJx4a65c 39 "java/util/ArrayList" "DEFAULTCAPACITY_EMPTY_ELEMENTDATA" "[Ljava/lang/Object;", Cond.fieldLink RJx4a65c 9 "java/util/ArrayList" "elementData" "[Ljava/lang/Object;", Cond.methodLink RJx4a65c 1 yJxc12de_init_da8c8, Cond.instanceMethod yJxc12de_init_da8c8, Cond.initialized RJxc12de, Cond.code yJxc12de_init_da8c8 cJxc12de_init_da8c8 1 none]
def wsL_law0_r4 : List Cond := [Cond.fieldLink RJxc12de 7 "java/util/AbstractList" "modCount" "I", Cond.methodLink RJxc12de 1 yJxa1e45_init_da8c8, Cond.instanceMethod yJxa1e45_init_da8c8, Cond.initialized RJxa1e45, Cond.code yJxa1e45_init_da8c8 cJxa1e45_init_da8c8 1 none, Cond.methodLink RJxa1e45 1 objectInit, Cond.methodLink RX2 20 yX6_init, Cond.instanceMethod yX6_init, Cond.code yX6_init cX6_init 1 none, Cond.methodLink RX6 3 objectInit, Cond.fieldLink RX6 11 "PlainWords$Things" "kinds" "[I", Cond.fieldLink RX6 17 "PlainWords$Things" "begins" "[I", Cond.fieldLink RX6 20 "PlainWords$Things" "values" "[I", Cond.fieldLink RX6 23 "PlainWords$Things" "size" "I", Cond.fieldLink RX6 27 "PlainWords$Things" "textLength" "I", Cond.fieldLink RX6 30 "PlainWords$Things" "at" "I", Cond.methodLink RX8 25 yX7_init, Cond.instanceMethod yX7_init, Cond.code yX7_init cX7_init 1 none, Cond.methodLink RX7 3 objectInit, Cond.fieldLink RX7 11 "PlainWords$Writer" "bytes" "[B", Cond.fieldLink RX7 17 "PlainWords$Writer" "size" "I", Cond.fieldLink RX7 21 "PlainWords$Writer" "behindOpen" "Z", Cond.methodLink RX8 32 yX1_init]
def wsL_law0_r5 : List Cond := [Cond.methodLink RL 66 yX9_init, Cond.instanceMethod yX9_init, Cond.code yX9_init cX9_init 1 none, Cond.methodLink RX9 1 objectInit, Cond.fieldLink RX9 9 "PlainWordsModel" "acts" "[I", Cond.fieldLink RX9 13 "PlainWordsModel" "act" "[I", Cond.fieldLink RX9 16 "PlainWordsModel" "who" "[I", Cond.fieldLink RX9 19 "PlainWordsModel" "mode" "[I", Cond.fieldLink RX9 22 "PlainWordsModel" "days" "[I", Cond.arrayClass .boolean, Cond.fieldLink RX9 25 "PlainWordsModel" "isPassive" "[Z", Cond.fieldLink RX9 29 "PlainWordsModel" "length" "[I", Cond.constant RX9 32 (84000), Cond.fieldLink RX9 33 "PlainWordsModel" "row" "[I", Cond.fieldLink RX9 36 "PlainWordsModel" "what" "[I", Cond.fieldLink RX9 39 "PlainWordsModel" "first" "[I", Cond.fieldLink RX9 42 "PlainWordsModel" "next" "[I", Cond.fieldLink RX9 45 "PlainWordsModel" "tape" "[B", Cond.fieldLink RX9 49 "PlainWordsModel" "faultAt" "I", Cond.fieldLink RX9 53 "PlainWordsModel" "five" "[I", Cond.fieldLink RX9 56 "PlainWordsModel" "out" "[B", Cond.methodLink RL 67 yX8_feed, Cond.instanceMethod yX8_feed, Cond.selects RX8 yX8_feed yX8_feed]
def wsL_law0_r6 : List Cond := [Cond.code yX8_feed cX8_feed 6 (some .int), Cond.fieldLink RX8 50 "PlainWords$Tape" "size" "I", Cond.methodLink RX8 53 yX4_addNumber, Cond.instanceMethod yX4_addNumber, Cond.selects RX4 yX4_addNumber yX4_addNumber, Cond.code yX4_addNumber cX4_addNumber 3 none, Cond.methodLink RL 71 yX9_feed, Cond.instanceMethod yX9_feed, Cond.selects RX9 yX9_feed yX9_feed, Cond.code yX9_feed cX9_feed 7 (some .int), Cond.fieldLink RX9 59 "PlainWordsModel" "thrown" "I", Cond.fieldLink RX9 96 "PlainWordsModel" "taped" "I", Cond.methodLink RL 72 yX8_end, Cond.instanceMethod yX8_end, Cond.selects RX8 yX8_end yX8_end, Cond.code yX8_end cX8_end 2 (some .boolean), Cond.methodLink RX8 57 yX4_cut, Cond.instanceMethod yX4_cut, Cond.selects RX4 yX4_cut yX4_cut, Cond.code yX4_cut cX4_cut 2 (some .boolean), Cond.methodLink RL 75 yX9_end, Cond.instanceMethod yX9_end, Cond.selects RX9 yX9_end yX9_end, Cond.code yX9_end cX9_end 2 (some .boolean)]
def wsL_law0_r7 : List Cond := [Cond.methodLink RL 76 yL_letter, Cond.static yL_letter, Cond.initialized RL, Cond.codeWith yL_letter cL_letter 3 (some .int) [(0, 8, 11, 13)], Cond.classLink RL 13 "java/lang/IllegalArgumentException", Cond.methodLink RL 7 yX8_letter, Cond.instanceMethod yX8_letter, Cond.selects RX8 yX8_letter yX8_letter, Cond.code yX8_letter cX8_letter 2 (some .int), Cond.classLink RX8 69 "java/lang/IllegalArgumentException", Cond.initialized "java/lang/IllegalArgumentException", Cond.fieldLink RX8 76 "PlainWords$Reader" "draft" "LPlainWords$Letter;", Cond.methodLink RX8 61 yX2_read, Cond.instanceMethod yX2_read, Cond.selects RX2 yX2_read yX2_read, Cond.code yX2_read cX2_read 4 (some .boolean), Cond.methodLink RX2 41 yX1_clear, Cond.instanceMethod yX1_clear, Cond.selects RX1 yX1_clear yX1_clear, Cond.code yX1_clear cX1_clear 1 none, Cond.methodLink RX1 28 yJx4a65c_clear_da8c8, Cond.instanceMethod yJx4a65c_clear_da8c8, Cond.selects RJx4a65c yJx4a65c_clear_da8c8 yJx4a65c_clear_da8c8, Cond.code yJx4a65c_clear_da8c8 cJx4a65c_clear_da8c8 4 none]
def wsL_law0_r8 : List Cond := [Cond.fieldLink RJx4a65c 63 "java/util/ArrayList" "modCount" "I", Cond.sameField "java/util/ArrayList" "java/util/AbstractList" "modCount" "I", Cond.fieldLink RJx4a65c 48 "java/util/ArrayList" "size" "I", Cond.methodLink RX2 44 yX6_split, Cond.instanceMethod yX6_split, Cond.selects RX6 yX6_split yX6_split, Cond.code yX6_split cX6_split 6 none, Cond.fieldLink RX6 39 "PlainWords$Tape" "size" "I", Cond.methodLink RX6 40 yX4_at, Cond.instanceMethod yX4_at, Cond.selects RX4 yX4_at yX4_at, Cond.code yX4_at cX4_at 2 (some .int), Cond.methodLink RX6 43 yX6_isLetter, Cond.static yX6_isLetter, Cond.code yX6_isLetter cX6_isLetter 1 (some .boolean), Cond.methodLink RX6 47 yX6_wordEnd, Cond.static yX6_wordEnd, Cond.code yX6_wordEnd cX6_wordEnd 3 (some .int), Cond.methodLink RX6 51 yX6_wordIn, Cond.static yX6_wordIn, Cond.code yX6_wordIn cX6_wordIn 4 (some .int), Cond.methodLink RX6 71 yX5_text, Cond.static yX5_text, Cond.initialized RX5]
def wsL_law0_r9 : List Cond := [Cond.code yX5_text cX5_text 1 (some (.object "java/lang/String")), Cond.methodLink RX6 75 yX6_stands, Cond.static yX6_stands, Cond.code yX6_stands cX6_stands 5 (some .boolean), Cond.methodLink RX6 79 yJ0_length_8abf5, Cond.instanceMethod yJ0_length_8abf5, Cond.selects RJ0 yJ0_length_8abf5 yJ0_length_8abf5, Cond.initialized RJ0, Cond.code yJ0_length_8abf5 cJ0_length_8abf5 1 (some .int), Cond.fieldLink RJ0 9 "java/lang/String" "value" "[B", Cond.methodLink RJ0 335 yJ0_coder_7d493, Cond.instanceMethod yJ0_coder_7d493, Cond.selects RJ0 yJ0_coder_7d493 yJ0_coder_7d493, Cond.code yJ0_coder_7d493 cJ0_coder_7d493 1 (some .byte), Cond.fieldLink RJ0 38 "java/lang/String" "COMPACT_STRINGS" "Z", Cond.fieldLink RJ0 15 "java/lang/String" "coder" "B", Cond.methodLink RX6 84 yJ0_charAt_5068e, Cond.instanceMethod yJ0_charAt_5068e, Cond.selects RJ0 yJ0_charAt_5068e yJ0_charAt_5068e, Cond.code yJ0_charAt_5068e cJ0_charAt_5068e 2 (some .char), Cond.methodLink RJ0 492 yJ0_isLatin1_aae02, Cond.instanceMethod yJ0_isLatin1_aae02, Cond.selects RJ0 yJ0_isLatin1_aae02 yJ0_isLatin1_aae02, Cond.code yJ0_isLatin1_aae02 cJ0_isLatin1_aae02 1 (some .boolean)]
def wsL_law0_r10 : List Cond := [Cond.methodLink RJ0 495 yJ1_charAt_3b067, Cond.static yJ1_charAt_3b067, Cond.initialized RJ1, Cond.code yJ1_charAt_3b067 cJ1_charAt_3b067 2 (some .char), Cond.methodLink RJ1 9 yJ0_checkIndex_df160, Cond.static yJ0_checkIndex_df160, Cond.code yJ0_checkIndex_df160 cJ0_checkIndex_df160 2 none, Cond.fieldLink RJ0 1053 "jdk/internal/util/Preconditions" "SIOOBE_FORMATTER" "Ljava/util/function/BiFunction;", Cond.methodLink RJ0 1059 yJ3_checkIndex_8e157, Cond.static yJ3_checkIndex_8e157, Cond.initialized RJ3, Cond.code yJ3_checkIndex_8e157 cJ3_checkIndex_8e157 3 (some .int), Cond.methodLink RJ0 498 yJ2_charAt_3b067, Cond.static yJ2_charAt_3b067, Cond.initialized RJ2, Cond.code yJ2_charAt_3b067 cJ2_charAt_3b067 2 (some .char), Cond.methodLink RJ2 67 yJ2_checkIndex_2214a, Cond.static yJ2_checkIndex_2214a, Cond.code yJ2_checkIndex_2214a cJ2_checkIndex_2214a 2 none, Cond.methodLink RJ2 48 yJ2_length_9d52b, Cond.static yJ2_length_9d52b, Cond.code yJ2_length_9d52b cJ2_length_9d52b 1 (some .int), Cond.methodLink RJ2 414 yJ0_checkIndex_df160, Cond.methodLink RJ2 71 yJ2_getChar_3b067]
def wsL_law0_r11 : List Cond := [Cond.static yJ2_getChar_3b067, Cond.code yJ2_getChar_3b067 cJ2_getChar_3b067 2 (some .char), Cond.fieldLink RJ2 44 "java/lang/StringUTF16" "$assertionsDisabled" "Z", Cond.fieldLink RJ2 59 "java/lang/StringUTF16" "HI_BYTE_SHIFT" "I", Cond.fieldLink RJ2 63 "java/lang/StringUTF16" "LO_BYTE_SHIFT" "I", Cond.methodLink RX6 55 yX6_add, Cond.instanceMethod yX6_add, Cond.selects RX6 yX6_add yX6_add, Cond.code yX6_add cX6_add 4 none, Cond.methodLink RX6 59 yX6_isDigit, Cond.static yX6_isDigit, Cond.code yX6_isDigit cX6_isDigit 1 (some .boolean), Cond.methodLink RX6 62 yX6_numberEnd, Cond.static yX6_numberEnd, Cond.code yX6_numberEnd cX6_numberEnd 3 (some .int), Cond.methodLink RX6 65 yX6_numberIn, Cond.static yX6_numberIn, Cond.code yX6_numberIn cX6_numberIn 5 (some .int), Cond.methodLink RX6 68 yX5_sign, Cond.static yX5_sign, Cond.code yX5_sign cX5_sign 1 (some .int), Cond.methodLink RX2 48 yX2_readSentence, Cond.instanceMethod yX2_readSentence, Cond.selects RX2 yX2_readSentence yX2_readSentence]
def wsL_law0_r12 : List Cond := [Cond.code yX2_readSentence cX2_readSentence 5 (some .boolean), Cond.classLink RX2 25 RX3, Cond.instantiable RX3 7, Cond.initialized RX3, Cond.methodLink RX2 54 yX6_take, Cond.instanceMethod yX6_take, Cond.selects RX6 yX6_take yX6_take, Cond.code yX6_take cX6_take 3 (some .boolean), Cond.methodLink RX2 65 yX2_readCond, Cond.instanceMethod yX2_readCond, Cond.selects RX2 yX2_readCond yX2_readCond, Cond.code yX2_readCond cX2_readCond 4 (some (.object "PlainWords$Cond")), Cond.methodLink RX2 122 yX2_readAll, Cond.instanceMethod yX2_readAll, Cond.selects RX2 yX2_readAll yX2_readAll, Cond.methodLink RX2 129 yX0_joined, Cond.static yX0_joined, Cond.initialized RX0, Cond.code yX0_joined cX0_joined 7 (some (.object "PlainWords$Cond")), Cond.classLink RX0 9 RX0, Cond.instantiable RX0 7, Cond.methodLink RX0 48 yX0_rowOf, Cond.instanceMethod yX0_rowOf, Cond.selects RX0 yX0_rowOf yX0_rowOf]
def wsL_law0_r13 : List Cond := [Cond.code yX0_rowOf cX0_rowOf 3 (some (.array (.object "PlainWords$Cond"))), Cond.fieldLink RX0 11 "PlainWords$Cond" "kind" "I", Cond.fieldLink RX0 18 "PlainWords$Cond" "pieces" "[LPlainWords$Cond;", Cond.methodLink RX0 45 yX0_init_, Cond.instanceMethod yX0_init_, Cond.code yX0_init_ cX0_init_ 14 none, Cond.methodLink RX0 3 objectInit, Cond.constantLong RX0 40 (-1), Cond.fieldLink RX0 26 "PlainWords$Cond" "truth" "J", Cond.fieldLink RX0 30 "PlainWords$Cond" "words" "I", Cond.fieldLink RX0 33 "PlainWords$Cond" "nots" "I", Cond.fieldLink RX0 36 "PlainWords$Cond" "notNot" "Z", Cond.fieldLink RX0 15 "PlainWords$Cond" "number" "I", Cond.code yX2_readAll cX2_readAll 4 (some (.object "PlainWords$Cond")), Cond.methodLink RX2 133 yX2_readItem, Cond.instanceMethod yX2_readItem, Cond.selects RX2 yX2_readItem yX2_readItem, Cond.code yX2_readItem cX2_readItem 3 (some (.object "PlainWords$Cond")), Cond.methodLink RX2 75 yX6_takeNumber, Cond.instanceMethod yX6_takeNumber, Cond.selects RX6 yX6_takeNumber yX6_takeNumber, Cond.code yX6_takeNumber cX6_takeNumber 4 (some .int), Cond.methodLink RX6 35 yX6_value, Cond.instanceMethod yX6_value]
def wsL_law0_r14 : List Cond := [Cond.selects RX6 yX6_value yX6_value, Cond.code yX6_value cX6_value 1 (some .int), Cond.methodLink RX2 136 yX0_ofCase, Cond.static yX0_ofCase, Cond.code yX0_ofCase cX0_ofCase 1 (some (.object "PlainWords$Cond")), Cond.methodLink RX0 42 yX0_init, Cond.instanceMethod yX0_init, Cond.code yX0_init cX0_init 2 none, Cond.fieldLink RX0 22 "PlainWords$Cond" "TRUTHS" "[J", Cond.methodLink RX2 139 yX0_negated, Cond.static yX0_negated, Cond.code yX0_negated cX0_negated 2 (some (.object "PlainWords$Cond")), Cond.methodLink RX2 58 yX6_sees, Cond.instanceMethod yX6_sees, Cond.selects RX6 yX6_sees yX6_sees, Cond.code yX6_sees cX6_sees 2 (some .boolean), Cond.methodLink RX2 69 yX2_readPassive, Cond.instanceMethod yX2_readPassive, Cond.selects RX2 yX2_readPassive yX2_readPassive, Cond.code yX2_readPassive cX2_readPassive 1 (some .boolean), Cond.methodLink RX2 96 yX2_readActs, Cond.instanceMethod yX2_readActs, Cond.selects RX2 yX2_readActs yX2_readActs, Cond.code yX2_readActs cX2_readActs 3 (some .boolean)]
def wsL_law0_r15 : List Cond := [Cond.methodLink RX2 99 yX2_readAct, Cond.instanceMethod yX2_readAct, Cond.selects RX2 yX2_readAct yX2_readAct, Cond.code yX2_readAct cX2_readAct 2 (some .boolean), Cond.methodLink RX2 102 yX6_value, Cond.methodLink RX2 105 yX2_isTold, Cond.instanceMethod yX2_isTold, Cond.selects RX2 yX2_isTold yX2_isTold, Cond.code yX2_isTold cX2_isTold 3 (some .boolean), Cond.methodLink RX2 93 yX2_readMode, Cond.instanceMethod yX2_readMode, Cond.selects RX2 yX2_readMode yX2_readMode, Cond.code yX2_readMode cX2_readMode 1 (some .boolean), Cond.methodLink RX2 90 yX2_readWho, Cond.instanceMethod yX2_readWho, Cond.selects RX2 yX2_readWho yX2_readWho, Cond.code yX2_readWho cX2_readWho 1 (some .boolean), Cond.methodLink RX2 72 yX2_readActive, Cond.instanceMethod yX2_readActive, Cond.selects RX2 yX2_readActive yX2_readActive, Cond.code yX2_readActive cX2_readActive 1 (some .boolean), Cond.methodLink RX2 79 yX2_actsTold, Cond.instanceMethod yX2_actsTold, Cond.selects RX2 yX2_actsTold yX2_actsTold]
def wsL_law0_r16 : List Cond := [Cond.code yX2_actsTold cX2_actsTold 2 (some (.array .int)), Cond.methodLink RX2 108 Lib.Math.min.name, Cond.static Lib.Math.min.name, Cond.initialized "java/lang/Math", Cond.code Lib.Math.min.name Lib.Math.min.code 2 (some .int), Cond.methodLink RX2 113 Lib.Math.max.name, Cond.static Lib.Math.max.name, Cond.code Lib.Math.max.name Lib.Math.max.code 2 (some .int), Cond.methodLink RX2 116 arraycopyName, Cond.native arraycopyName, Cond.static arraycopyName, Cond.initialized "java/lang/System", Cond.methodLink RX2 83 yX3_init, Cond.instanceMethod yX3_init, Cond.code yX3_init cX3_init 8 none, Cond.methodLink RX3 3 objectInit, Cond.fieldLink RX3 9 "PlainWords$Sentence" "who" "I", Cond.fieldLink RX3 15 "PlainWords$Sentence" "mode" "I", Cond.fieldLink RX3 18 "PlainWords$Sentence" "limit" "I", Cond.fieldLink RX3 21 "PlainWords$Sentence" "passive" "Z", Cond.fieldLink RX3 25 "PlainWords$Sentence" "acts" "[I", Cond.fieldLink RX3 29 "PlainWords$Sentence" "when" "LPlainWords$Cond;", Cond.fieldLink RX3 33 "PlainWords$Sentence" "unless" "LPlainWords$Cond;", Cond.methodLink RX2 86 yX1_add]
def wsL_law0_r17 : List Cond := [Cond.instanceMethod yX1_add, Cond.selects RX1 yX1_add yX1_add, Cond.code yX1_add cX1_add 2 none, Cond.methodLink RX1 18 yJx4a65c_size_8abf5, Cond.instanceMethod yJx4a65c_size_8abf5, Cond.selects RJx4a65c yJx4a65c_size_8abf5 yJx4a65c_size_8abf5, Cond.code yJx4a65c_size_8abf5 cJx4a65c_size_8abf5 1 (some .int), Cond.methodLink RX1 31 yJx4a65c_add_9ea2d, Cond.instanceMethod yJx4a65c_add_9ea2d, Cond.selects RJx4a65c yJx4a65c_add_9ea2d yJx4a65c_add_9ea2d, Cond.code yJx4a65c_add_9ea2d cJx4a65c_add_9ea2d 2 (some .boolean), Cond.methodLink RJx4a65c 131 yJx4a65c_add_72be8, Cond.instanceMethod yJx4a65c_add_72be8, Cond.selects RJx4a65c yJx4a65c_add_72be8 yJx4a65c_add_72be8, Cond.code yJx4a65c_add_72be8 cJx4a65c_add_72be8 4 none, Cond.methodLink RJx4a65c 129 yJx4a65c_grow_d5877, Cond.instanceMethod yJx4a65c_grow_d5877, Cond.selects RJx4a65c yJx4a65c_grow_d5877 yJx4a65c_grow_d5877, Cond.code yJx4a65c_grow_d5877 cJx4a65c_grow_d5877 1 (some (.array (.object "java/lang/Object"))), Cond.methodLink RJx4a65c 69 yJx4a65c_grow_92f84, Cond.instanceMethod yJx4a65c_grow_92f84, Cond.selects RJx4a65c yJx4a65c_grow_92f84 yJx4a65c_grow_92f84, Cond.code yJx4a65c_grow_92f84 cJx4a65c_grow_92f84 4 (some (.array (.object "java/lang/Object"))), Cond.methodLink RJx4a65c 79 Lib.Math.max.name]
def wsL_law0_r18 : List Cond := [Cond.classLink RJx4a65c 7 "java/lang/Object", Cond.methodLink RJx4a65c 73 yJ8_newLength_cabcc, Cond.static yJ8_newLength_cabcc, Cond.initialized RJ8, Cond.code yJ8_newLength_cabcc cJ8_newLength_cabcc 4 (some .int), Cond.methodLink RJ8 194 Lib.Math.max.name, Cond.constant RJ8 200 (2147483639), Cond.methodLink RJ8 201 yJ8_hugeLength_7cf53, Cond.static yJ8_hugeLength_7cf53, Cond.code yJ8_hugeLength_7cf53 cJ8_hugeLength_7cf53 3 (some .int), Cond.methodLink RJx4a65c 66 yJ7_copyOf_1904c, Cond.static yJ7_copyOf_1904c, Cond.initialized RJ7, Cond.code yJ7_copyOf_1904c cJ7_copyOf_1904c 2 (some (.array (.object "java/lang/Object"))), Cond.methodLink RJ7 86 ⟨"java/lang/Object", "getClass", "()Ljava/lang/Class;"⟩, Cond.selects "[Ljava/lang/Object;" ⟨"java/lang/Object", "getClass", "()Ljava/lang/Class;"⟩ ⟨"java/lang/Object", "getClass", "()Ljava/lang/Class;"⟩, Cond.instanceMethod ⟨"java/lang/Object", "getClass", "()Ljava/lang/Class;"⟩, Cond.native ⟨"java/lang/Object", "getClass", "()Ljava/lang/Class;"⟩, Cond.methodLink RJ7 300 yJ7_copyOf_6403c, Cond.static yJ7_copyOf_6403c, Cond.code yJ7_copyOf_6403c cJ7_copyOf_6403c 4 (some (.array (.object "java/lang/Object"))), Cond.classLink RJ7 110 "[Ljava/lang/Object;", Cond.classLink RJ7 2 "java/lang/Object", Cond.methodLink RJ7 304 Lib.Math.min.name]
def wsL_law0_r19 : List Cond := [Cond.methodLink RJ7 150 arraycopyName, Cond.methodLink RX8 65 yX2_stoppedAt, Cond.instanceMethod yX2_stoppedAt, Cond.selects RX2 yX2_stoppedAt yX2_stoppedAt, Cond.code yX2_stoppedAt cX2_stoppedAt 1 (some .int), Cond.methodLink RX2 61 yX6_begin, Cond.instanceMethod yX6_begin, Cond.selects RX6 yX6_begin yX6_begin, Cond.code yX6_begin cX6_begin 1 (some .int), Cond.methodLink RX8 79 yX1_become, Cond.instanceMethod yX1_become, Cond.selects RX1 yX1_become yX1_become, Cond.code yX1_become cX1_become 3 none, Cond.methodLink RX1 35 yX1_size, Cond.instanceMethod yX1_size, Cond.selects RX1 yX1_size yX1_size, Cond.code yX1_size cX1_size 1 (some .int), Cond.methodLink RX1 36 yX1_at, Cond.instanceMethod yX1_at, Cond.selects RX1 yX1_at yX1_at, Cond.code yX1_at cX1_at 2 (some (.object "PlainWords$Sentence")), Cond.classLink RX1 26 "PlainWords$Sentence", Cond.methodLink RX1 22 yJx4a65c_get_915e3, Cond.instanceMethod yJx4a65c_get_915e3]
def wsL_law0_r20 : List Cond := [Cond.selects RJx4a65c yJx4a65c_get_915e3 yJx4a65c_get_915e3, Cond.code yJx4a65c_get_915e3 cJx4a65c_get_915e3 2 (some (.object "java/lang/Object")), Cond.methodLink RJx4a65c 118 yJ15_checkIndex_7cf53, Cond.static yJ15_checkIndex_7cf53, Cond.initialized RJ15, Cond.code yJ15_checkIndex_7cf53 cJ15_checkIndex_7cf53 2 (some .int), Cond.methodLink RJ15 105 yJ3_checkIndex_8e157, Cond.methodLink RJx4a65c 123 yJx4a65c_elementData_915e3, Cond.instanceMethod yJx4a65c_elementData_915e3, Cond.selects RJx4a65c yJx4a65c_elementData_915e3 yJx4a65c_elementData_915e3, Cond.code yJx4a65c_elementData_915e3 cJx4a65c_elementData_915e3 2 (some (.object "java/lang/Object")), Cond.methodLink RX1 40 yX1_add, Cond.methodLink RX8 83 yX1_size, Cond.methodLink RL 81 yX9_letter, Cond.instanceMethod yX9_letter, Cond.selects RX9 yX9_letter yX9_letter, Cond.code yX9_letter cX9_letter 3 (some .int), Cond.fieldLink RX9 102 "PlainWordsModel" "end" "I", Cond.fieldLink RX9 109 "PlainWordsModel" "begin" "I", Cond.fieldLink RX9 216 "PlainWordsModel" "old" "I", Cond.fieldLink RX9 219 "PlainWordsModel" "hasLetter" "Z", Cond.fieldLink RX9 223 "PlainWordsModel" "letters" "I", Cond.fieldLink RX9 226 "PlainWordsModel" "turns" "I", Cond.methodLink RX9 206 yX9_readAll]
def wsL_law0_r21 : List Cond := [Cond.instanceMethod yX9_readAll, Cond.selects RX9 yX9_readAll yX9_readAll, Cond.code yX9_readAll cX9_readAll 2 (some .int), Cond.fieldLink RX9 99 "PlainWordsModel" "point" "I", Cond.methodLink RX9 203 yX9_readSentence, Cond.instanceMethod yX9_readSentence, Cond.selects RX9 yX9_readSentence yX9_readSentence, Cond.code yX9_readSentence cX9_readSentence 2 (some .boolean), Cond.methodLink RX9 143 yX9_passes, Cond.instanceMethod yX9_passes, Cond.selects RX9 yX9_passes yX9_passes, Cond.code yX9_passes cX9_passes 2 (some .boolean), Cond.methodLink RX9 124 yX9_word, Cond.instanceMethod yX9_word, Cond.selects RX9 yX9_word yX9_word, Cond.code yX9_word cX9_word 1 none, Cond.methodLink RX9 112 yX9_blanks, Cond.instanceMethod yX9_blanks, Cond.selects RX9 yX9_blanks yX9_blanks, Cond.code yX9_blanks cX9_blanks 1 none, Cond.methodLink RX9 105 yX9_isAt, Cond.instanceMethod yX9_isAt, Cond.selects RX9 yX9_isAt yX9_isAt, Cond.code yX9_isAt cX9_isAt 3 (some .boolean)]
def wsL_law0_r22 : List Cond := [Cond.methodLink RX9 127 yX9_isWord, Cond.instanceMethod yX9_isWord, Cond.selects RX9 yX9_isWord yX9_isWord, Cond.code yX9_isWord cX9_isWord 4 (some .boolean), Cond.methodLink RX9 115 yJ0_length_8abf5, Cond.methodLink RX9 120 yJ0_charAt_5068e, Cond.methodLink RX9 193 yX9_readInto, Cond.instanceMethod yX9_readInto, Cond.selects RX9 yX9_readInto yX9_readInto, Cond.code yX9_readInto cX9_readInto 3 (some .boolean), Cond.fieldLink RX9 62 "PlainWordsModel" "places" "I", Cond.fieldLink RX9 135 "PlainWordsModel" "deep" "I", Cond.methodLink RX9 138 yX9_readCond, Cond.instanceMethod yX9_readCond, Cond.selects RX9 yX9_readCond yX9_readCond, Cond.code yX9_readCond cX9_readCond 3 (some .int), Cond.methodLink RX9 156 yX9_readAllOf, Cond.instanceMethod yX9_readAllOf, Cond.selects RX9 yX9_readAllOf yX9_readAllOf, Cond.methodLink RX9 68 yX9_place, Cond.instanceMethod yX9_place, Cond.selects RX9 yX9_place yX9_place, Cond.code yX9_place cX9_place 2 (some .int), Cond.methodLink RX9 75 yX9_puts]
def wsL_law0_r23 : List Cond := [Cond.instanceMethod yX9_puts, Cond.selects RX9 yX9_puts yX9_puts, Cond.code yX9_puts cX9_puts 4 none, Cond.code yX9_readAllOf cX9_readAllOf 3 (some .int), Cond.methodLink RX9 146 yX9_readItem, Cond.instanceMethod yX9_readItem, Cond.selects RX9 yX9_readItem yX9_readItem, Cond.code yX9_readItem cX9_readItem 3 (some .int), Cond.methodLink RX9 131 yX9_sign, Cond.instanceMethod yX9_sign, Cond.selects RX9 yX9_sign yX9_sign, Cond.code yX9_sign cX9_sign 2 (some .boolean), Cond.methodLink RX9 151 yX9_number, Cond.instanceMethod yX9_number, Cond.selects RX9 yX9_number yX9_number, Cond.code yX9_number cX9_number 4 (some .int), Cond.methodLink RX9 161 yX9_laysAll, Cond.instanceMethod yX9_laysAll, Cond.selects RX9 yX9_laysAll yX9_laysAll, Cond.code yX9_laysAll cX9_laysAll 3 none, Cond.fieldLink RX9 86 "PlainWordsModel" "laid" "I", Cond.methodLink RX9 89 yX9_lays, Cond.instanceMethod yX9_lays, Cond.selects RX9 yX9_lays yX9_lays]
def wsL_law0_r24 : List Cond := [Cond.code yX9_lays cX9_lays 3 none, Cond.methodLink RX9 82 yX9_size, Cond.instanceMethod yX9_size, Cond.selects RX9 yX9_size yX9_size, Cond.code yX9_size cX9_size 5 (some .int), Cond.methodLink RX9 92 yX9_laysThose, Cond.instanceMethod yX9_laysThose, Cond.selects RX9 yX9_laysThose yX9_laysThose, Cond.code yX9_laysThose cX9_laysThose 5 none, Cond.methodLink RX9 196 yX9_readBody, Cond.instanceMethod yX9_readBody, Cond.selects RX9 yX9_readBody yX9_readBody, Cond.code yX9_readBody cX9_readBody 2 (some .boolean), Cond.methodLink RX9 175 yX9_readWho, Cond.instanceMethod yX9_readWho, Cond.selects RX9 yX9_readWho yX9_readWho, Cond.code yX9_readWho cX9_readWho 1 (some .int), Cond.methodLink RX9 178 yX9_readMode, Cond.instanceMethod yX9_readMode, Cond.selects RX9 yX9_readMode yX9_readMode, Cond.code yX9_readMode cX9_readMode 2 (some .boolean), Cond.methodLink RX9 181 yX9_readActs, Cond.instanceMethod yX9_readActs, Cond.selects RX9 yX9_readActs yX9_readActs]
def wsL_law0_r25 : List Cond := [Cond.code yX9_readActs cX9_readActs 6 (some .boolean), Cond.methodLink RX9 209 yX9_throwsIf, Cond.instanceMethod yX9_throwsIf, Cond.selects RX9 yX9_throwsIf yX9_throwsIf, Cond.code yX9_throwsIf cX9_throwsIf 3 (some .boolean), Cond.methodLink RX9 213 yX9_copies, Cond.instanceMethod yX9_copies, Cond.selects RX9 yX9_copies yX9_copies, Cond.code yX9_copies cX9_copies 5 none, Cond.methodLink RX9 229 yX9_renews, Cond.instanceMethod yX9_renews, Cond.selects RX9 yX9_renews yX9_renews, Cond.code yX9_renews cX9_renews 2 none, Cond.fieldLink RX9 232 "PlainWordsModel" "fresh" "I", Cond.methodLink RL 82 yX9_thrown, Cond.instanceMethod yX9_thrown, Cond.selects RX9 yX9_thrown yX9_thrown, Cond.code yX9_thrown cX9_thrown 1 (some .int), Cond.methodLink RL 85 yX8_fault, Cond.instanceMethod yX8_fault, Cond.selects RX8 yX8_fault yX8_fault, Cond.code yX8_fault cX8_fault 1 (some .int), Cond.methodLink RL 88 yX9_fault, Cond.instanceMethod yX9_fault]
def wsL_law0_r26 : List Cond := [Cond.selects RX9 yX9_fault yX9_fault, Cond.code yX9_fault cX9_fault 1 (some .int), Cond.methodLink RL 89 yL_part, Cond.static yL_part, Cond.codeWith yL_part cL_part 4 (some .int) [(0, 16, 19, 19), (0, 16, 22, 21)], Cond.classLink RL 19 "java/lang/IllegalStateException", Cond.classLink RL 21 "java/lang/IndexOutOfBoundsException", Cond.methodLink RL 15 yX8_part, Cond.instanceMethod yX8_part, Cond.selects RX8 yX8_part yX8_part, Cond.code yX8_part cX8_part 2 (some .boolean), Cond.methodLink RX8 85 yX8_needSentence, Cond.instanceMethod yX8_needSentence, Cond.selects RX8 yX8_needSentence yX8_needSentence, Cond.code yX8_needSentence cX8_needSentence 2 none, Cond.classLink RX8 161 "java/lang/IndexOutOfBoundsException", Cond.initialized "java/lang/IndexOutOfBoundsException", Cond.methodLink RX8 104 yX8_needLetter, Cond.instanceMethod yX8_needLetter, Cond.selects RX8 yX8_needLetter yX8_needLetter, Cond.code yX8_needLetter cX8_needLetter 1 none, Cond.classLink RX8 156 "java/lang/IllegalStateException", Cond.initialized "java/lang/IllegalStateException", Cond.methodLink RX8 88 yX1_partAt]
def wsL_law0_r27 : List Cond := [Cond.instanceMethod yX1_partAt, Cond.selects RX1 yX1_partAt yX1_partAt, Cond.code yX1_partAt cX1_partAt 5 (some .boolean), Cond.fieldLink RX1 43 "PlainWords$Sentence" "acts" "[I", Cond.methodLink RX1 47 yX3_withAct, Cond.instanceMethod yX3_withAct, Cond.selects RX3 yX3_withAct yX3_withAct, Cond.code yX3_withAct cX3_withAct 3 (some (.object "PlainWords$Sentence")), Cond.methodLink RX3 39 yX3_withActs, Cond.instanceMethod yX3_withActs, Cond.selects RX3 yX3_withActs yX3_withActs, Cond.code yX3_withActs cX3_withActs 2 (some (.object "PlainWords$Sentence")), Cond.classLink RX3 10 RX3, Cond.methodLink RX3 36 yX3_init, Cond.methodLink RX1 50 yJx4a65c_set_bcc79, Cond.instanceMethod yJx4a65c_set_bcc79, Cond.selects RJx4a65c yJx4a65c_set_bcc79 yJx4a65c_set_bcc79, Cond.code yJx4a65c_set_bcc79 cJx4a65c_set_bcc79 4 (some (.object "java/lang/Object")), Cond.methodLink RX1 54 yJx4a65c_add_7a177, Cond.instanceMethod yJx4a65c_add_7a177, Cond.selects RJx4a65c yJx4a65c_add_7a177 yJx4a65c_add_7a177, Cond.code yJx4a65c_add_7a177 cJx4a65c_add_7a177 5 none, Cond.methodLink RJx4a65c 112 arraycopyName, Cond.methodLink RJx4a65c 135 yJx4a65c_rangeCheckForAdd_d00df]
def wsL_law0_r28 : List Cond := [Cond.instanceMethod yJx4a65c_rangeCheckForAdd_d00df, Cond.selects RJx4a65c yJx4a65c_rangeCheckForAdd_d00df yJx4a65c_rangeCheckForAdd_d00df, Cond.code yJx4a65c_rangeCheckForAdd_d00df cJx4a65c_rangeCheckForAdd_d00df 2 none, Cond.methodLink RX8 91 yX8_tallied, Cond.instanceMethod yX8_tallied, Cond.selects RX8 yX8_tallied yX8_tallied, Cond.code yX8_tallied cX8_tallied 2 (some .boolean), Cond.methodLink RL 92 yX9_part, Cond.instanceMethod yX9_part, Cond.selects RX9 yX9_part yX9_part, Cond.code yX9_part cX9_part 5 (some .boolean), Cond.methodLink RX9 301 yX9_refuses, Cond.instanceMethod yX9_refuses, Cond.selects RX9 yX9_refuses yX9_refuses, Cond.code yX9_refuses cX9_refuses 2 (some .boolean), Cond.methodLink RX9 298 yX9_noSentence, Cond.instanceMethod yX9_noSentence, Cond.selects RX9 yX9_noSentence yX9_noSentence, Cond.code yX9_noSentence cX9_noSentence 2 (some .boolean), Cond.methodLink RX9 294 yX9_in, Cond.static yX9_in, Cond.code yX9_in cX9_in 3 (some .boolean), Cond.methodLink RL 93 yL_melt, Cond.static yL_melt]
def wsL_law0_r29 : List Cond := [Cond.codeWith yL_melt cL_melt 4 (some .int) [(0, 16, 19, 19), (0, 16, 22, 21)], Cond.methodLink RL 23 yX8_melt, Cond.instanceMethod yX8_melt, Cond.selects RX8 yX8_melt yX8_melt, Cond.code yX8_melt cX8_melt 2 (some .boolean), Cond.methodLink RX8 95 yX1_meltAt, Cond.instanceMethod yX1_meltAt, Cond.selects RX1 yX1_meltAt yX1_meltAt, Cond.code yX1_meltAt cX1_meltAt 2 (some .boolean), Cond.methodLink RX1 57 yX3_canMelt, Cond.instanceMethod yX3_canMelt, Cond.selects RX3 yX3_canMelt yX3_canMelt, Cond.code yX3_canMelt cX3_canMelt 6 (some .boolean), Cond.methodLink RX3 60 yX3_asksLike, Cond.instanceMethod yX3_asksLike, Cond.selects RX3 yX3_asksLike yX3_asksLike, Cond.code yX3_asksLike cX3_asksLike 2 (some .boolean), Cond.methodLink RX3 64 yX3_names, Cond.instanceMethod yX3_names, Cond.selects RX3 yX3_names yX3_names, Cond.code yX3_names cX3_names 6 (some .boolean), Cond.static yX0_alike, Cond.code yX0_alike cX0_alike 4 (some .boolean), Cond.methodLink RX0 64 yX0_alike]
def wsL_law0_r30 : List Cond := [Cond.methodLink RX1 61 yX3_melted, Cond.instanceMethod yX3_melted, Cond.selects RX3 yX3_melted yX3_melted, Cond.code yX3_melted cX3_melted 3 (some (.object "PlainWords$Sentence")), Cond.methodLink RX3 72 arraycopyName, Cond.methodLink RX1 65 yJx4a65c_remove_915e3, Cond.instanceMethod yJx4a65c_remove_915e3, Cond.selects RJx4a65c yJx4a65c_remove_915e3 yJx4a65c_remove_915e3, Cond.code yJx4a65c_remove_915e3 cJx4a65c_remove_915e3 4 (some (.object "java/lang/Object")), Cond.methodLink RJx4a65c 144 yJx4a65c_fastRemove_b59b0, Cond.instanceMethod yJx4a65c_fastRemove_b59b0, Cond.selects RJx4a65c yJx4a65c_fastRemove_b59b0 yJx4a65c_fastRemove_b59b0, Cond.code yJx4a65c_fastRemove_b59b0 cJx4a65c_fastRemove_b59b0 4 none, Cond.methodLink RL 95 yX9_melt, Cond.instanceMethod yX9_melt, Cond.selects RX9 yX9_melt yX9_melt, Cond.code yX9_melt cX9_melt 6 (some .boolean), Cond.methodLink RX9 304 yX9_areAlike, Cond.instanceMethod yX9_areAlike, Cond.selects RX9 yX9_areAlike yX9_areAlike, Cond.code yX9_areAlike cX9_areAlike 6 (some .boolean), Cond.methodLink RL 96 yL_turn, Cond.static yL_turn, Cond.codeWith yL_turn cL_turn 4 (some .int) [(0, 16, 19, 19), (0, 16, 22, 21)]]
def wsL_law0_r31 : List Cond := [Cond.methodLink RL 26 yX8_turn, Cond.instanceMethod yX8_turn, Cond.selects RX8 yX8_turn yX8_turn, Cond.code yX8_turn cX8_turn 2 (some .boolean), Cond.methodLink RX8 98 yX1_turnAt, Cond.instanceMethod yX1_turnAt, Cond.selects RX1 yX1_turnAt yX1_turnAt, Cond.code yX1_turnAt cX1_turnAt 3 (some .boolean), Cond.methodLink RX1 68 yX3_canTurn, Cond.instanceMethod yX3_canTurn, Cond.selects RX3 yX3_canTurn yX3_canTurn, Cond.code yX3_canTurn cX3_canTurn 1 (some .boolean), Cond.methodLink RX1 72 yX3_turned, Cond.instanceMethod yX3_turned, Cond.selects RX3 yX3_turned yX3_turned, Cond.code yX3_turned cX3_turned 1 (some (.object "PlainWords$Sentence")), Cond.methodLink RL 98 yX9_turn, Cond.instanceMethod yX9_turn, Cond.selects RX9 yX9_turn yX9_turn, Cond.code yX9_turn cX9_turn 2 (some .boolean), Cond.methodLink RX9 307 yX9_turnsRound, Cond.instanceMethod yX9_turnsRound, Cond.selects RX9 yX9_turnsRound yX9_turnsRound, Cond.code yX9_turnsRound cX9_turnsRound 2 (some .boolean)]
def wsL_law0_r32 : List Cond := [Cond.methodLink RL 99 yL_ease, Cond.static yL_ease, Cond.codeWith yL_ease cL_ease 4 (some .int) [(0, 16, 19, 19), (0, 16, 22, 21)], Cond.methodLink RL 29 yX8_ease, Cond.instanceMethod yX8_ease, Cond.selects RX8 yX8_ease yX8_ease, Cond.code yX8_ease cX8_ease 2 (some .boolean), Cond.methodLink RX8 101 yX1_easeAt, Cond.instanceMethod yX1_easeAt, Cond.selects RX1 yX1_easeAt yX1_easeAt, Cond.code yX1_easeAt cX1_easeAt 3 (some .boolean), Cond.methodLink RX1 76 yX3_canEase, Cond.instanceMethod yX3_canEase, Cond.selects RX3 yX3_canEase yX3_canEase, Cond.code yX3_canEase cX3_canEase 1 (some .boolean), Cond.fieldLink RX3 43 "PlainWords$Cond" "notNot" "Z", Cond.methodLink RX1 79 yX3_eased, Cond.instanceMethod yX3_eased, Cond.selects RX3 yX3_eased yX3_eased, Cond.code yX3_eased cX3_eased 3 (some (.object "PlainWords$Sentence")), Cond.methodLink RX3 48 yX0_negated, Cond.methodLink RX3 52 yX0_joined, Cond.static yX0_eased, Cond.code yX0_eased cX0_eased 5 (some (.object "PlainWords$Cond"))]
def wsL_law0_r33 : List Cond := [Cond.methodLink RX0 52 yX0_eased, Cond.methodLink RX0 56 yX0_negated, Cond.methodLink RX0 60 yX0_joined, Cond.methodLink RL 101 yX9_ease, Cond.instanceMethod yX9_ease, Cond.selects RX9 yX9_ease yX9_ease, Cond.code yX9_ease cX9_ease 2 (some .boolean), Cond.methodLink RX9 313 yX9_eases, Cond.instanceMethod yX9_eases, Cond.selects RX9 yX9_eases yX9_eases, Cond.code yX9_eases cX9_eases 7 (some .boolean), Cond.methodLink RX9 283 yX9_notsOf, Cond.instanceMethod yX9_notsOf, Cond.selects RX9 yX9_notsOf yX9_notsOf, Cond.code yX9_notsOf cX9_notsOf 5 (some .int), Cond.methodLink RX9 310 yX9_treeOf, Cond.instanceMethod yX9_treeOf, Cond.selects RX9 yX9_treeOf yX9_treeOf, Cond.code yX9_treeOf cX9_treeOf 2 (some .int), Cond.fieldLink RX9 65 "PlainWordsModel" "at" "I", Cond.methodLink RX9 72 yX9_tree, Cond.instanceMethod yX9_tree, Cond.selects RX9 yX9_tree yX9_tree, Cond.code yX9_tree cX9_tree 6 (some .int)]
def wsL_law0_r34 : List Cond := [Cond.methodLink RX9 79 yX9_eased, Cond.instanceMethod yX9_eased, Cond.selects RX9 yX9_eased yX9_eased, Cond.code yX9_eased cX9_eased 4 (some .int), Cond.methodLink RL 102 yL_plainest, Cond.static yL_plainest, Cond.codeWith yL_plainest cL_plainest 3 (some .int) [(0, 8, 11, 19)], Cond.methodLink RL 32 yX8_plainest, Cond.instanceMethod yX8_plainest, Cond.selects RX8 yX8_plainest yX8_plainest, Cond.code yX8_plainest cX8_plainest 1 (some .int), Cond.methodLink RX8 107 yX1_becomePlainest, Cond.instanceMethod yX1_becomePlainest, Cond.selects RX1 yX1_becomePlainest yX1_becomePlainest, Cond.code yX1_becomePlainest cX1_becomePlainest 3 none, Cond.methodLink RX1 86 yX1_addPlainest, Cond.instanceMethod yX1_addPlainest, Cond.selects RX1 yX1_addPlainest yX1_addPlainest, Cond.code yX1_addPlainest cX1_addPlainest 12 none, Cond.methodLink RX1 82 yX3_price, Cond.instanceMethod yX3_price, Cond.selects RX3 yX3_price yX3_price, Cond.code yX3_price cX3_price 3 (some .int), Cond.methodLink RX3 99 Lib.Math.max.name]
def wsL_law0_r35 : List Cond := [Cond.methodLink RX3 93 yX3_words, Cond.instanceMethod yX3_words, Cond.selects RX3 yX3_words yX3_words, Cond.code yX3_words cX3_words 3 (some .int), Cond.fieldLink RX3 87 "PlainWords$Cond" "words" "I", Cond.methodLink RX3 96 yX3_nots, Cond.instanceMethod yX3_nots, Cond.selects RX3 yX3_nots yX3_nots, Cond.code yX3_nots cX3_nots 1 (some .int), Cond.fieldLink RX3 90 "PlainWords$Cond" "nots" "I", Cond.methodLink RX1 89 yJ6_bitCount_0f7a4, Cond.static yJ6_bitCount_0f7a4, Cond.initialized RJ6, Cond.code yJ6_bitCount_0f7a4 cJ6_bitCount_0f7a4 1 (some .int), Cond.constant RJ6 265 (1431655765), Cond.constant RJ6 266 (858993459), Cond.constant RJ6 267 (252645135), Cond.methodLink RX1 94 yX1_addWhole, Cond.instanceMethod yX1_addWhole, Cond.selects RX1 yX1_addWhole yX1_addWhole, Cond.code yX1_addWhole cX1_addWhole 4 none, Cond.methodLink RX8 110 yX1_price, Cond.instanceMethod yX1_price, Cond.selects RX1 yX1_price yX1_price]
def wsL_law0_r36 : List Cond := [Cond.code yX1_price cX1_price 4 (some .int), Cond.methodLink RL 104 yX9_plainest, Cond.instanceMethod yX9_plainest, Cond.selects RX9 yX9_plainest yX9_plainest, Cond.code yX9_plainest cX9_plainest 6 (some .int), Cond.fieldLink RX9 316 "PlainWordsModel" "tried" "I", Cond.methodLink RX9 319 yX9_tries, Cond.instanceMethod yX9_tries, Cond.selects RX9 yX9_tries yX9_tries, Cond.code yX9_tries cX9_tries 5 (some .int), Cond.methodLink RX9 289 yX9_costOfAll, Cond.instanceMethod yX9_costOfAll, Cond.selects RX9 yX9_costOfAll yX9_costOfAll, Cond.code yX9_costOfAll cX9_costOfAll 5 (some .int), Cond.methodLink RX9 286 yX9_costOf, Cond.instanceMethod yX9_costOf, Cond.selects RX9 yX9_costOf yX9_costOf, Cond.code yX9_costOf cX9_costOf 3 (some .int), Cond.methodLink RX9 280 yX9_wordsOf, Cond.instanceMethod yX9_wordsOf, Cond.selects RX9 yX9_wordsOf yX9_wordsOf, Cond.code yX9_wordsOf cX9_wordsOf 2 (some .int), Cond.fieldLink RX9 235 "PlainWordsModel" "written" "I", Cond.fieldLink RX9 245 "PlainWordsModel" "words" "I"]
def wsL_law0_r37 : List Cond := [Cond.methodLink RX9 277 yX9_putSentence, Cond.instanceMethod yX9_putSentence, Cond.selects RX9 yX9_putSentence yX9_putSentence, Cond.code yX9_putSentence cX9_putSentence 2 none, Cond.fieldLink RX9 238 "PlainWordsModel" "isOpen" "Z", Cond.methodLink RX9 250 yX9_putWord, Cond.instanceMethod yX9_putWord, Cond.selects RX9 yX9_putWord yX9_putWord, Cond.code yX9_putWord cX9_putWord 2 none, Cond.methodLink RX9 241 yX9_put, Cond.instanceMethod yX9_put, Cond.selects RX9 yX9_put yX9_put, Cond.code yX9_put cX9_put 4 none, Cond.methodLink RX9 258 yX9_putCond, Cond.instanceMethod yX9_putCond, Cond.selects RX9 yX9_putCond yX9_putCond, Cond.code yX9_putCond cX9_putCond 7 none, Cond.methodLink RX9 254 yX9_putNumber, Cond.instanceMethod yX9_putNumber, Cond.selects RX9 yX9_putNumber yX9_putNumber, Cond.code yX9_putNumber cX9_putNumber 3 none, Cond.methodLink RX9 261 yX9_putOpen, Cond.instanceMethod yX9_putOpen, Cond.selects RX9 yX9_putOpen yX9_putOpen]
def wsL_law0_r38 : List Cond := [Cond.code yX9_putOpen cX9_putOpen 1 none, Cond.methodLink RX9 268 yX9_putActs, Cond.instanceMethod yX9_putActs, Cond.selects RX9 yX9_putActs yX9_putActs, Cond.code yX9_putActs cX9_putActs 3 none, Cond.methodLink RX9 271 yX9_putMode, Cond.instanceMethod yX9_putMode, Cond.selects RX9 yX9_putMode yX9_putMode, Cond.code yX9_putMode cX9_putMode 2 none, Cond.methodLink RX9 274 yX9_putWho, Cond.instanceMethod yX9_putWho, Cond.selects RX9 yX9_putWho yX9_putWho, Cond.code yX9_putWho cX9_putWho 2 none, Cond.methodLink RX9 322 yX9_isFewer, Cond.static yX9_isFewer, Cond.code yX9_isFewer cX9_isFewer 3 (some .boolean), Cond.methodLink RX9 325 yJ6_bitCount_0f7a4, Cond.methodLink RL 105 yL_again, Cond.static yL_again, Cond.codeWith yL_again cL_again 2 (some .int) [(0, 4, 7, 19)], Cond.methodLink RL 35 yX8_again, Cond.instanceMethod yX8_again, Cond.selects RX8 yX8_again yX8_again, Cond.code yX8_again cX8_again 1 none]
def wsL_law0_r39 : List Cond := [Cond.methodLink RL 108 yX9_again, Cond.instanceMethod yX9_again, Cond.selects RX9 yX9_again yX9_again, Cond.code yX9_again cX9_again 1 none, Cond.methodLink RL 109 yL_cost, Cond.static yL_cost, Cond.codeWith yL_cost cL_cost 4 (some .int) [(0, 9, 12, 19)], Cond.methodLink RL 38 yX8_cost, Cond.instanceMethod yX8_cost, Cond.selects RX8 yX8_cost yX8_cost, Cond.code yX8_cost cX8_cost 2 (some .int), Cond.methodLink RX8 113 yX8_chosen, Cond.instanceMethod yX8_chosen, Cond.selects RX8 yX8_chosen yX8_chosen, Cond.code yX8_chosen cX8_chosen 2 (some (.object "PlainWords$Letter")), Cond.methodLink RL 112 yX9_cost, Cond.instanceMethod yX9_cost, Cond.selects RX9 yX9_cost yX9_cost, Cond.code yX9_cost cX9_cost 2 (some .int), Cond.methodLink RL 113 yL_look, Cond.static yL_look, Cond.codeWith yL_look cL_look 5 (some .int) [(0, 10, 13, 19), (0, 10, 17, 21), (0, 10, 21, 46)], Cond.classLink RL 46 "java/util/NoSuchElementException", Cond.methodLink RL 42 yX8_look]
def wsL_law0_r40 : List Cond := [Cond.instanceMethod yX8_look, Cond.selects RX8 yX8_look yX8_look, Cond.code yX8_look cX8_look 3 (some .int), Cond.classLink RX8 117 "java/util/NoSuchElementException", Cond.initialized "java/util/NoSuchElementException", Cond.methodLink RX8 122 yX1_at, Cond.methodLink RX8 126 yX3_trait, Cond.instanceMethod yX3_trait, Cond.selects RX3 yX3_trait yX3_trait, Cond.code yX3_trait cX3_trait 2 (some .int), Cond.methodLink RX3 105 yX3_price, Cond.methodLink RL 116 yX9_look, Cond.instanceMethod yX9_look, Cond.selects RX9 yX9_look yX9_look, Cond.code yX9_look cX9_look 4 (some .int), Cond.methodLink RL 117 yL_same, Cond.static yL_same, Cond.codeWith yL_same cL_same 3 (some .int) [(0, 15, 18, 19)], Cond.methodLink RL 48 yX8_same, Cond.instanceMethod yX8_same, Cond.selects RX8 yX8_same yX8_same, Cond.code yX8_same cX8_same 1 (some .boolean), Cond.methodLink RX8 132 yX1_isWithin, Cond.instanceMethod yX1_isWithin]
def wsL_law0_r41 : List Cond := [Cond.selects RX1 yX1_isWithin yX1_isWithin, Cond.code yX1_isWithin cX1_isWithin 8 (some .boolean), Cond.constantLong RX1 102 (-1), Cond.methodLink RX1 98 yX1_casesAsking, Cond.instanceMethod yX1_casesAsking, Cond.selects RX1 yX1_casesAsking yX1_casesAsking, Cond.code yX1_casesAsking cX1_casesAsking 7 (some .long), Cond.methodLink RX1 104 yX3_asksLike, Cond.methodLink RX1 107 yX3_names, Cond.methodLink RX1 111 yX3_truth, Cond.instanceMethod yX3_truth, Cond.selects RX3 yX3_truth yX3_truth, Cond.code yX3_truth cX3_truth 3 (some .long), Cond.constantLong RX3 78 (-1), Cond.fieldLink RX3 80 "PlainWords$Cond" "truth" "J", Cond.methodLink RL 119 yX9_same, Cond.instanceMethod yX9_same, Cond.selects RX9 yX9_same yX9_same, Cond.code yX9_same cX9_same 1 (some .boolean), Cond.methodLink RX9 343 yX9_isWithin, Cond.instanceMethod yX9_isWithin, Cond.selects RX9 yX9_isWithin yX9_isWithin, Cond.code yX9_isWithin cX9_isWithin 8 (some .boolean), Cond.methodLink RX9 336 yX9_counts]
def wsL_law0_r42 : List Cond := [Cond.instanceMethod yX9_counts, Cond.selects RX9 yX9_counts yX9_counts, Cond.code yX9_counts cX9_counts 3 (some .boolean), Cond.methodLink RX9 330 yX9_isSo, Cond.instanceMethod yX9_isSo, Cond.selects RX9 yX9_isSo yX9_isSo, Cond.code yX9_isSo cX9_isSo 9 (some .boolean), Cond.methodLink RX9 339 yX9_asks, Cond.instanceMethod yX9_asks, Cond.selects RX9 yX9_asks yX9_asks, Cond.code yX9_asks cX9_asks 9 (some .boolean), Cond.methodLink RX9 333 yX9_hasAct, Cond.instanceMethod yX9_hasAct, Cond.selects RX9 yX9_hasAct yX9_hasAct, Cond.code yX9_hasAct cX9_hasAct 5 (some .boolean), Cond.methodLink RL 120 yL_write, Cond.static yL_write, Cond.codeWith yL_write cL_write 3 (some .int) [(0, 8, 11, 19)], Cond.methodLink RL 52 yX8_write, Cond.instanceMethod yX8_write, Cond.selects RX8 yX8_write yX8_write, Cond.code yX8_write cX8_write 1 (some .int), Cond.fieldLink RX8 139 "PlainWords$Writer" "size" "I", Cond.fieldLink RX8 140 "PlainWords$Writer" "bytes" "[B"]
def wsL_law0_r43 : List Cond := [Cond.methodLink RX8 136 yX7_writeLetter, Cond.instanceMethod yX7_writeLetter, Cond.selects RX7 yX7_writeLetter yX7_writeLetter, Cond.code yX7_writeLetter cX7_writeLetter 3 none, Cond.methodLink RX7 25 yX1_size, Cond.methodLink RX7 30 yX7_put, Cond.instanceMethod yX7_put, Cond.selects RX7 yX7_put yX7_put, Cond.code yX7_put cX7_put 2 none, Cond.methodLink RX7 34 yX1_at, Cond.methodLink RX7 38 yX7_writeSentence, Cond.instanceMethod yX7_writeSentence, Cond.selects RX7 yX7_writeSentence yX7_writeSentence, Cond.code yX7_writeSentence cX7_writeSentence 2 none, Cond.fieldLink RX7 42 "PlainWords$Sentence" "when" "LPlainWords$Cond;", Cond.fieldLink RX7 57 "PlainWords$Sentence" "passive" "Z", Cond.fieldLink RX7 60 "PlainWords$Sentence" "acts" "[I", Cond.fieldLink RX7 68 "PlainWords$Sentence" "mode" "I", Cond.fieldLink RX7 74 "PlainWords$Sentence" "who" "I", Cond.fieldLink RX7 80 "PlainWords$Sentence" "unless" "LPlainWords$Cond;", Cond.fieldLink RX7 83 "PlainWords$Sentence" "limit" "I", Cond.methodLink RX7 50 yX7_writeWord, Cond.instanceMethod yX7_writeWord, Cond.selects RX7 yX7_writeWord yX7_writeWord]
def wsL_law0_r44 : List Cond := [Cond.code yX7_writeWord cX7_writeWord 4 none, Cond.methodLink RX7 105 yX7_blank, Cond.instanceMethod yX7_blank, Cond.selects RX7 yX7_blank yX7_blank, Cond.code yX7_blank cX7_blank 1 none, Cond.methodLink RX7 108 yX5_text, Cond.methodLink RX7 112 yJ0_length_8abf5, Cond.methodLink RX7 117 yJ0_charAt_5068e, Cond.methodLink RX7 53 yX7_writeCond, Cond.instanceMethod yX7_writeCond, Cond.selects RX7 yX7_writeCond yX7_writeCond, Cond.code yX7_writeCond cX7_writeCond 4 none, Cond.fieldLink RX7 89 "PlainWords$Cond" "kind" "I", Cond.fieldLink RX7 94 "PlainWords$Cond" "number" "I", Cond.fieldLink RX7 97 "PlainWords$Cond" "pieces" "[LPlainWords$Cond;", Cond.methodLink RX7 86 yX7_writeNumber, Cond.instanceMethod yX7_writeNumber, Cond.selects RX7 yX7_writeNumber yX7_writeNumber, Cond.code yX7_writeNumber cX7_writeNumber 2 none, Cond.methodLink RX7 101 yX7_writePiece, Cond.instanceMethod yX7_writePiece, Cond.selects RX7 yX7_writePiece yX7_writePiece, Cond.code yX7_writePiece cX7_writePiece 5 none, Cond.methodLink RX7 64 yX7_writeActs]
def wsL_law0_r45 : List Cond := [Cond.instanceMethod yX7_writeActs, Cond.selects RX7 yX7_writeActs yX7_writeActs, Cond.code yX7_writeActs cX7_writeActs 3 none, Cond.methodLink RX7 71 yX7_writeMode, Cond.instanceMethod yX7_writeMode, Cond.selects RX7 yX7_writeMode yX7_writeMode, Cond.code yX7_writeMode cX7_writeMode 2 none, Cond.methodLink RX7 77 yX7_writeDone, Cond.instanceMethod yX7_writeDone, Cond.selects RX7 yX7_writeDone yX7_writeDone, Cond.code yX7_writeDone cX7_writeDone 2 none, Cond.methodLink RX8 144 yX4_become, Cond.instanceMethod yX4_become, Cond.selects RX4 yX4_become yX4_become, Cond.code yX4_become cX4_become 3 none, Cond.methodLink RX4 19 arraycopyName, Cond.methodLink RL 122 yX9_write, Cond.instanceMethod yX9_write, Cond.selects RX9 yX9_write yX9_write, Cond.code yX9_write cX9_write 2 (some .int), Cond.methodLink RL 123 yX8_taped, Cond.instanceMethod yX8_taped, Cond.selects RX8 yX8_taped yX8_taped, Cond.code yX8_taped cX8_taped 2 (some .int)]
def wsL_law0_r46 : List Cond := [Cond.methodLink RX8 147 yX4_at, Cond.methodLink RL 127 yX9_taped, Cond.instanceMethod yX9_taped, Cond.selects RX9 yX9_taped yX9_taped, Cond.code yX9_taped cX9_taped 2 (some .int), Cond.methodLink RL 128 yL_ask, Cond.static yL_ask, Cond.codeWith yL_ask cL_ask 7 (some .int) [(0, 14, 17, 19)], Cond.methodLink RL 55 yX8_ask, Cond.instanceMethod yX8_ask, Cond.selects RX8 yX8_ask yX8_ask, Cond.code yX8_ask cX8_ask 5 (some .int), Cond.methodLink RX8 149 yX1_modesAsked, Cond.instanceMethod yX1_modesAsked, Cond.selects RX1 yX1_modesAsked yX1_modesAsked, Cond.code yX1_modesAsked cX1_modesAsked 7 (some .int), Cond.fieldLink RX1 119 "PlainWords$Sentence" "mode" "I", Cond.methodLink RX1 115 yX3_asks, Cond.instanceMethod yX3_asks, Cond.selects RX3 yX3_asks yX3_asks, Cond.code yX3_asks cX3_asks 4 (some .boolean), Cond.methodLink RX3 84 yX3_truth, Cond.methodLink RL 131 yX9_ask, Cond.instanceMethod yX9_ask]
def wsL_law0_r47 : List Cond := [Cond.selects RX9 yX9_ask yX9_ask, Cond.code yX9_ask cX9_ask 8 (some .int), Cond.methodLink RL 132 yL_days, Cond.static yL_days, Cond.codeWith yL_days cL_days 6 (some .int) [(0, 12, 15, 19)], Cond.methodLink RL 59 yX8_days, Cond.instanceMethod yX8_days, Cond.selects RX8 yX8_days yX8_days, Cond.code yX8_days cX8_days 4 (some .int), Cond.methodLink RX8 153 yX1_leastDays, Cond.instanceMethod yX1_leastDays, Cond.selects RX1 yX1_leastDays yX1_leastDays, Cond.code yX1_leastDays cX1_leastDays 7 (some .int), Cond.fieldLink RX1 123 "PlainWords$Sentence" "limit" "I", Cond.methodLink RX1 126 Lib.Math.min.name, Cond.methodLink RL 135 yX9_days, Cond.instanceMethod yX9_days, Cond.selects RX9 yX9_days yX9_days, Cond.code yX9_days cX9_days 6 (some .int), Cond.methodLink RX9 347 Lib.Math.min.name, Cond.methodLink RL 136 yX8_count, Cond.instanceMethod yX8_count, Cond.selects RX8 yX8_count yX8_count, Cond.code yX8_count cX8_count 2 (some .int)]
def wsL_law0_r48 : List Cond := [Cond.methodLink RL 139 yX9_count, Cond.instanceMethod yX9_count, Cond.selects RX9 yX9_count yX9_count, Cond.code yX9_count cX9_count 2 (some .int)]
def wsL_law0 : List Cond := (wsL_law0_r1 ++ (wsL_law0_r2 ++ (wsL_law0_r3 ++ (wsL_law0_r4 ++ (wsL_law0_r5 ++ (wsL_law0_r6 ++ (wsL_law0_r7 ++ (wsL_law0_r8 ++ (wsL_law0_r9 ++ (wsL_law0_r10 ++ (wsL_law0_r11 ++ (wsL_law0_r12 ++ (wsL_law0_r13 ++ (wsL_law0_r14 ++ (wsL_law0_r15 ++ (wsL_law0_r16 ++ (wsL_law0_r17 ++ (wsL_law0_r18 ++ (wsL_law0_r19 ++ (wsL_law0_r20 ++ (wsL_law0_r21 ++ (wsL_law0_r22 ++ (wsL_law0_r23 ++ (wsL_law0_r24 ++ (wsL_law0_r25 ++ (wsL_law0_r26 ++ (wsL_law0_r27 ++ (wsL_law0_r28 ++ (wsL_law0_r29 ++ (wsL_law0_r30 ++ (wsL_law0_r31 ++ (wsL_law0_r32 ++ (wsL_law0_r33 ++ (wsL_law0_r34 ++ (wsL_law0_r35 ++ (wsL_law0_r36 ++ (wsL_law0_r37 ++ (wsL_law0_r38 ++ (wsL_law0_r39 ++ (wsL_law0_r40 ++ (wsL_law0_r41 ++ (wsL_law0_r42 ++ (wsL_law0_r43 ++ (wsL_law0_r44 ++ (wsL_law0_r45 ++ (wsL_law0_r46 ++ (wsL_law0_r47 ++ wsL_law0_r48))))))))))))))))))))))))))))))))))))))))))))))) ++ wsX80 ++ wsX90 ++ wsX40 ++ wsX20 ++ wsX70 ++ wsX10 ++ wsX60 ++ wsJx4a65c0 ++ wsJ00 ++ wsX30 ++ wsX00 ++ ([] : List Cond)
