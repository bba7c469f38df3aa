def RX0 : String := "TonguerootFamily$Alignment"
def TX0 : u_T := fun k => match k with
  | 0 => ("TonguerootFamily$Alignment", "sounds", "LTonguerootFamily$Sounds;", true)
  | 1 => ("TonguerootFamily$Alignment", "first", "[I", true)
  | 2 => ("TonguerootFamily$Alignment", "second", "[I", true)
  | 3 => ("TonguerootFamily$Alignment", "firstSize", "I", false)
  | 4 => ("TonguerootFamily$Alignment", "secondSize", "I", false)
  | 5 => ("TonguerootFamily$Alignment", "least", "[[I", true)
  | 6 => ("TonguerootFamily$Alignment", "upper", "[I", true)
  | _ => ("TonguerootFamily$Alignment", "lower", "[I", true)
def tyX0 : Nat → FieldType := fun k => match k with
  | 0 => .object "TonguerootFamily$Sounds"
  | 1 => .array .int
  | 2 => .array .int
  | 3 => .int
  | 4 => .int
  | 5 => .array (.array .int)
  | 6 => .array .int
  | _ => .array .int
abbrev wsX00 : List Cond := u_ws RX0 TX0 8
theorem nmX0 : ∀ a, a < 8 → ∀ b, b < 8 → a ≠ b → (TX0 a).2.1 ≠ (TX0 b).2.1 := by decide +kernel
theorem tyX0_ok : ∀ k, k < 8 → parseFieldDescriptor (TX0 k).2.2.1 = some (tyX0 k) := by decide +kernel
abbrev cX0_init : ByteArray := prog_2_method_1_code
def yX0_init : MethodName := ⟨RX0, "<init>", "(LTonguerootFamily$Sounds;)V"⟩
abbrev cX0_upperAt : ByteArray := prog_2_method_2_code
def yX0_upperAt : MethodName := ⟨RX0, "upperAt", "(I)I"⟩
abbrev cX0_lowerAt : ByteArray := prog_2_method_3_code
def yX0_lowerAt : MethodName := ⟨RX0, "lowerAt", "(I)I"⟩
abbrev cX0_weigh : ByteArray := prog_2_method_4_code
def yX0_weigh : MethodName := ⟨RX0, "weigh", "(JJ)I"⟩
abbrev cX0_align : ByteArray := prog_2_method_5_code
def yX0_align : MethodName := ⟨RX0, "align", "(JJ)I"⟩
abbrev cX0_spellOut : ByteArray := prog_2_method_6_code
def yX0_spellOut : MethodName := ⟨RX0, "spellOut", "(J[I)I"⟩
abbrev cX0_leastFrom : ByteArray := prog_2_method_7_code
def yX0_leastFrom : MethodName := ⟨RX0, "leastFrom", "(II)I"⟩
abbrev cX0_pairFrom : ByteArray := prog_2_method_8_code
def yX0_pairFrom : MethodName := ⟨RX0, "pairFrom", "(II)I"⟩
abbrev cX0_takesPair : ByteArray := prog_2_method_9_code
def yX0_takesPair : MethodName := ⟨RX0, "takesPair", "(II)Z"⟩
abbrev cX0_takesFirstAlone : ByteArray := prog_2_method_10_code
def yX0_takesFirstAlone : MethodName := ⟨RX0, "takesFirstAlone", "(II)Z"⟩
def RX1 : String := "TonguerootFamily$History"
def TX1 : u_T := fun k => match k with
  | 0 => ("TonguerootFamily$History", "languages", "Ljava/util/ArrayList;", true)
  | _ => ("TonguerootFamily$History", "loans", "Ljava/util/ArrayList;", true)
def tyX1 : Nat → FieldType := fun k => match k with
  | 0 => .object "java/util/ArrayList"
  | _ => .object "java/util/ArrayList"
abbrev wsX10 : List Cond := u_ws RX1 TX1 2
theorem nmX1 : ∀ a, a < 2 → ∀ b, b < 2 → a ≠ b → (TX1 a).2.1 ≠ (TX1 b).2.1 := by decide +kernel
theorem tyX1_ok : ∀ k, k < 2 → parseFieldDescriptor (TX1 k).2.2.1 = some (tyX1 k) := by decide +kernel
abbrev cX1_init : ByteArray := prog_3_method_1_code
def yX1_init : MethodName := ⟨RX1, "<init>", "(Ljava/util/ArrayList;Ljava/util/ArrayList;)V"⟩
abbrev cX1_replacing : ByteArray := prog_3_method_2_code
def yX1_replacing : MethodName := ⟨RX1, "replacing", "(ILTonguerootFamily$Language;)LTonguerootFamily$History;"⟩
abbrev cX1_lackingLoan : ByteArray := prog_3_method_3_code
def yX1_lackingLoan : MethodName := ⟨RX1, "lackingLoan", "(I)LTonguerootFamily$History;"⟩
def RX2 : String := "TonguerootFamily$Language"
def TX2 : u_T := fun k => match k with
  | 0 => ("TonguerootFamily$Language", "parent", "I", true)
  | _ => ("TonguerootFamily$Language", "laws", "Ljava/util/ArrayList;", true)
def tyX2 : Nat → FieldType := fun k => match k with
  | 0 => .int
  | _ => .object "java/util/ArrayList"
abbrev wsX20 : List Cond := u_ws RX2 TX2 2
theorem nmX2 : ∀ a, a < 2 → ∀ b, b < 2 → a ≠ b → (TX2 a).2.1 ≠ (TX2 b).2.1 := by decide +kernel
theorem tyX2_ok : ∀ k, k < 2 → parseFieldDescriptor (TX2 k).2.2.1 = some (tyX2 k) := by decide +kernel
abbrev cX2_init : ByteArray := prog_4_method_1_code
def yX2_init : MethodName := ⟨RX2, "<init>", "(I)V"⟩
abbrev cX2_lackingLaw : ByteArray := prog_4_method_2_code
def yX2_lackingLaw : MethodName := ⟨RX2, "lackingLaw", "(I)LTonguerootFamily$Language;"⟩
abbrev cX2_swappingLaw : ByteArray := prog_4_method_3_code
def yX2_swappingLaw : MethodName := ⟨RX2, "swappingLaw", "(I)LTonguerootFamily$Language;"⟩
def RX3 : String := "TonguerootFamily$Law"
def TX3 : u_T := fun k => match k with
  | 0 => ("TonguerootFamily$Law", "sounds", "I", true)
  | 1 => ("TonguerootFamily$Law", "becomes", "I", true)
  | 2 => ("TonguerootFamily$Law", "ahead", "I", true)
  | _ => ("TonguerootFamily$Law", "behind", "I", true)
def tyX3 : Nat → FieldType := fun k => match k with
  | 0 => .int
  | 1 => .int
  | 2 => .int
  | _ => .int
abbrev wsX30 : List Cond := u_ws RX3 TX3 4
theorem nmX3 : ∀ a, a < 4 → ∀ b, b < 4 → a ≠ b → (TX3 a).2.1 ≠ (TX3 b).2.1 := by decide +kernel
theorem tyX3_ok : ∀ k, k < 4 → parseFieldDescriptor (TX3 k).2.2.1 = some (tyX3 k) := by decide +kernel
abbrev cX3_init : ByteArray := prog_5_method_1_code
def yX3_init : MethodName := ⟨RX3, "<init>", "(IIII)V"⟩
abbrev cX3_goOver : ByteArray := prog_5_method_2_code
def yX3_goOver : MethodName := ⟨RX3, "goOver", "(JLTonguerootFamily$Sounds;)J"⟩
abbrev cX3_holdsAt : ByteArray := prog_5_method_3_code
def yX3_holdsAt : MethodName := ⟨RX3, "holdsAt", "(JI)Z"⟩
abbrev cX3_heirOf : ByteArray := prog_5_method_4_code
def yX3_heirOf : MethodName := ⟨RX3, "heirOf", "(ILTonguerootFamily$Sounds;)I"⟩
abbrev cX3_has : ByteArray := prog_5_method_5_code
def yX3_has : MethodName := ⟨RX3, "has", "(II)Z"⟩
def RX4 : String := "TonguerootFamily$Lexicon"
def TX4 : u_T := fun k => match k with
  | 0 => ("TonguerootFamily$Lexicon", "history", "LTonguerootFamily$History;", false)
  | 1 => ("TonguerootFamily$Lexicon", "sounds", "LTonguerootFamily$Sounds;", true)
  | 2 => ("TonguerootFamily$Lexicon", "given", "[J", true)
  | 3 => ("TonguerootFamily$Lexicon", "words", "[J", true)
  | 4 => ("TonguerootFamily$Lexicon", "origins", "[I", true)
  | 5 => ("TonguerootFamily$Lexicon", "changers", "[I", true)
  | _ => ("TonguerootFamily$Lexicon", "fresh", "[Z", true)
def tyX4 : Nat → FieldType := fun k => match k with
  | 0 => .object "TonguerootFamily$History"
  | 1 => .object "TonguerootFamily$Sounds"
  | 2 => .array .long
  | 3 => .array .long
  | 4 => .array .int
  | 5 => .array .int
  | _ => .array .boolean
abbrev wsX40 : List Cond := u_ws RX4 TX4 7
theorem nmX4 : ∀ a, a < 7 → ∀ b, b < 7 → a ≠ b → (TX4 a).2.1 ≠ (TX4 b).2.1 := by decide +kernel
theorem tyX4_ok : ∀ k, k < 7 → parseFieldDescriptor (TX4 k).2.2.1 = some (tyX4 k) := by decide +kernel
abbrev cX4_init : ByteArray := prog_6_method_1_code
def yX4_init : MethodName := ⟨RX4, "<init>", "(LTonguerootFamily$History;LTonguerootFamily$Sounds;[J)V"⟩
abbrev cX4_tellOf : ByteArray := prog_6_method_2_code
def yX4_tellOf : MethodName := ⟨RX4, "tellOf", "(LTonguerootFamily$History;)V"⟩
abbrev cX4_forget : ByteArray := prog_6_method_3_code
def yX4_forget : MethodName := ⟨RX4, "forget", "(I)V"⟩
abbrev cX4_freshenAll : ByteArray := prog_6_method_4_code
def yX4_freshenAll : MethodName := ⟨RX4, "freshenAll", "()V"⟩
abbrev cX4_freshen : ByteArray := prog_6_method_5_code
def yX4_freshen : MethodName := ⟨RX4, "freshen", "(I)V"⟩
abbrev cX4_tellWord : ByteArray := prog_6_method_6_code
def yX4_tellWord : MethodName := ⟨RX4, "tellWord", "(II)V"⟩
abbrev cX4_inherit : ByteArray := prog_6_method_7_code
def yX4_inherit : MethodName := ⟨RX4, "inherit", "(II)V"⟩
abbrev cX4_borrow : ByteArray := prog_6_method_8_code
def yX4_borrow : MethodName := ⟨RX4, "borrow", "(III)V"⟩
abbrev cX4_hasWord : ByteArray := prog_6_method_9_code
def yX4_hasWord : MethodName := ⟨RX4, "hasWord", "(II)Z"⟩
abbrev cX4_bothHave : ByteArray := prog_6_method_10_code
def yX4_bothHave : MethodName := ⟨RX4, "bothHave", "(III)Z"⟩
abbrev cX4_areKin : ByteArray := prog_6_method_11_code
def yX4_areKin : MethodName := ⟨RX4, "areKin", "(III)Z"⟩
abbrev cX4_wordOf : ByteArray := prog_6_method_12_code
def yX4_wordOf : MethodName := ⟨RX4, "wordOf", "(II)J"⟩
abbrev cX4_originOf : ByteArray := prog_6_method_13_code
def yX4_originOf : MethodName := ⟨RX4, "originOf", "(II)I"⟩
abbrev cX4_changersOf : ByteArray := prog_6_method_14_code
def yX4_changersOf : MethodName := ⟨RX4, "changersOf", "(II)I"⟩
abbrev cX4_cell : ByteArray := prog_6_method_15_code
def yX4_cell : MethodName := ⟨RX4, "cell", "(II)I"⟩
def RX5 : String := "TonguerootFamily$Loan"
def TX5 : u_T := fun k => match k with
  | 0 => ("TonguerootFamily$Loan", "meaning", "I", true)
  | 1 => ("TonguerootFamily$Loan", "from", "I", true)
  | 2 => ("TonguerootFamily$Loan", "to", "I", true)
  | _ => ("TonguerootFamily$Loan", "moment", "I", true)
def tyX5 : Nat → FieldType := fun k => match k with
  | 0 => .int
  | 1 => .int
  | 2 => .int
  | _ => .int
abbrev wsX50 : List Cond := u_ws RX5 TX5 4
theorem nmX5 : ∀ a, a < 4 → ∀ b, b < 4 → a ≠ b → (TX5 a).2.1 ≠ (TX5 b).2.1 := by decide +kernel
theorem tyX5_ok : ∀ k, k < 4 → parseFieldDescriptor (TX5 k).2.2.1 = some (tyX5 k) := by decide +kernel
abbrev cX5_init : ByteArray := prog_7_method_1_code
def yX5_init : MethodName := ⟨RX5, "<init>", "(IIII)V"⟩
abbrev cX5_comesTo : ByteArray := prog_7_method_2_code
def yX5_comesTo : MethodName := ⟨RX5, "comesTo", "(III)Z"⟩
def RX6 : String := "TonguerootFamily$Sounds"
def TX6 : u_T := fun k => match k with
  | 0 => ("TonguerootFamily$Sounds", "features", "[I", true)
  | _ => ("TonguerootFamily$Sounds", "costs", "[[I", true)
def tyX6 : Nat → FieldType := fun k => match k with
  | 0 => .array .int
  | _ => .array (.array .int)
abbrev wsX60 : List Cond := u_ws RX6 TX6 2
theorem nmX6 : ∀ a, a < 2 → ∀ b, b < 2 → a ≠ b → (TX6 a).2.1 ≠ (TX6 b).2.1 := by decide +kernel
theorem tyX6_ok : ∀ k, k < 2 → parseFieldDescriptor (TX6 k).2.2.1 = some (tyX6 k) := by decide +kernel
abbrev cX6_init : ByteArray := prog_8_method_1_code
def yX6_init : MethodName := ⟨RX6, "<init>", "()V"⟩
abbrev cX6_featuresOf : ByteArray := prog_8_method_2_code
def yX6_featuresOf : MethodName := ⟨RX6, "featuresOf", "(I)I"⟩
abbrev cX6_giveFeatures : ByteArray := prog_8_method_3_code
def yX6_giveFeatures : MethodName := ⟨RX6, "giveFeatures", "(II)V"⟩
abbrev cX6_turned : ByteArray := prog_8_method_4_code
def yX6_turned : MethodName := ⟨RX6, "turned", "(II)I"⟩
def RX7 : String := "TonguerootFamily$Votes"
def TX7 : u_T := fun k => match k with
  | _ => ("TonguerootFamily$Votes", "counts", "[I", true)
def tyX7 : Nat → FieldType := fun k => match k with
  | _ => .array .int
abbrev wsX70 : List Cond := u_ws RX7 TX7 1
theorem nmX7 : ∀ a, a < 1 → ∀ b, b < 1 → a ≠ b → (TX7 a).2.1 ≠ (TX7 b).2.1 := by decide +kernel
theorem tyX7_ok : ∀ k, k < 1 → parseFieldDescriptor (TX7 k).2.2.1 = some (tyX7 k) := by decide +kernel
abbrev cX7_init : ByteArray := prog_9_method_1_code
def yX7_init : MethodName := ⟨RX7, "<init>", "()V"⟩
abbrev cX7_clear : ByteArray := prog_9_method_2_code
def yX7_clear : MethodName := ⟨RX7, "clear", "()V"⟩
abbrev cX7_add : ByteArray := prog_9_method_3_code
def yX7_add : MethodName := ⟨RX7, "add", "(I)V"⟩
abbrev cX7_countOf : ByteArray := prog_9_method_4_code
def yX7_countOf : MethodName := ⟨RX7, "countOf", "(I)I"⟩
abbrev cX7_winner : ByteArray := prog_9_method_5_code
def yX7_winner : MethodName := ⟨RX7, "winner", "()I"⟩
def RX8 : String := "TonguerootFamily$Word"
def TX8 : u_T := fun k => match k with
  | _ => ("", "", "", false)
def tyX8 : Nat → FieldType := fun k => match k with
  | _ => .int
abbrev wsX80 : List Cond := u_ws RX8 TX8 0
theorem nmX8 : ∀ a, a < 0 → ∀ b, b < 0 → a ≠ b → (TX8 a).2.1 ≠ (TX8 b).2.1 := by decide +kernel
theorem tyX8_ok : ∀ k, k < 0 → parseFieldDescriptor (TX8 k).2.2.1 = some (tyX8 k) := by decide +kernel
abbrev cX8_size : ByteArray := prog_10_method_2_code
def yX8_size : MethodName := ⟨RX8, "size", "(J)I"⟩
abbrev cX8_at : ByteArray := prog_10_method_3_code
def yX8_at : MethodName := ⟨RX8, "at", "(JI)I"⟩
abbrev cX8_plus : ByteArray := prog_10_method_4_code
def yX8_plus : MethodName := ⟨RX8, "plus", "(JI)J"⟩
def RX9 : String := "TonguerootFamily"
def TX9 : u_T := fun k => match k with
  | 0 => ("TonguerootFamily", "sounds", "LTonguerootFamily$Sounds;", true)
  | 1 => ("TonguerootFamily", "given", "[J", true)
  | 2 => ("TonguerootFamily", "open", "I", false)
  | 3 => ("TonguerootFamily", "history", "LTonguerootFamily$History;", true)
  | 4 => ("TonguerootFamily", "actual", "LTonguerootFamily$Lexicon;", true)
  | 5 => ("TonguerootFamily", "unlent", "LTonguerootFamily$Lexicon;", true)
  | 6 => ("TonguerootFamily", "supposed", "LTonguerootFamily$Lexicon;", true)
  | 7 => ("TonguerootFamily", "alignment", "LTonguerootFamily$Alignment;", true)
  | 8 => ("TonguerootFamily", "votes", "[LTonguerootFamily$Votes;", true)
  | _ => ("TonguerootFamily", "knownCosts", "[[I", true)
def tyX9 : Nat → FieldType := fun k => match k with
  | 0 => .object "TonguerootFamily$Sounds"
  | 1 => .array .long
  | 2 => .int
  | 3 => .object "TonguerootFamily$History"
  | 4 => .object "TonguerootFamily$Lexicon"
  | 5 => .object "TonguerootFamily$Lexicon"
  | 6 => .object "TonguerootFamily$Lexicon"
  | 7 => .object "TonguerootFamily$Alignment"
  | 8 => .array (.object "TonguerootFamily$Votes")
  | _ => .array (.array .int)
abbrev wsX90 : List Cond := u_ws RX9 TX9 10
theorem nmX9 : ∀ a, a < 10 → ∀ b, b < 10 → a ≠ b → (TX9 a).2.1 ≠ (TX9 b).2.1 := by decide +kernel
theorem tyX9_ok : ∀ k, k < 10 → parseFieldDescriptor (TX9 k).2.2.1 = some (tyX9 k) := by decide +kernel
abbrev cX9_init : ByteArray := prog_1_method_1_code
def yX9_init : MethodName := ⟨RX9, "<init>", "()V"⟩
abbrev cX9_motherAlone : ByteArray := prog_1_method_2_code
def yX9_motherAlone : MethodName := ⟨RX9, "motherAlone", "()Ljava/util/ArrayList;"⟩
abbrev cX9_setSound : ByteArray := prog_1_method_3_code
def yX9_setSound : MethodName := ⟨RX9, "setSound", "(II)I"⟩
abbrev cX9_word : ByteArray := prog_1_method_4_code
def yX9_word : MethodName := ⟨RX9, "word", "(I)I"⟩
abbrev cX9_spell : ByteArray := prog_1_method_5_code
def yX9_spell : MethodName := ⟨RX9, "spell", "(I)I"⟩
abbrev cX9_language : ByteArray := prog_1_method_6_code
def yX9_language : MethodName := ⟨RX9, "language", "(I)I"⟩
abbrev cX9_law : ByteArray := prog_1_method_7_code
def yX9_law : MethodName := ⟨RX9, "law", "(IIIII)I"⟩
abbrev cX9_unlaw : ByteArray := prog_1_method_8_code
def yX9_unlaw : MethodName := ⟨RX9, "unlaw", "(I)I"⟩
abbrev cX9_loan : ByteArray := prog_1_method_9_code
def yX9_loan : MethodName := ⟨RX9, "loan", "(IIII)I"⟩
abbrev cX9_languages : ByteArray := prog_1_method_10_code
def yX9_languages : MethodName := ⟨RX9, "languages", "()I"⟩
abbrev cX9_laws : ByteArray := prog_1_method_11_code
def yX9_laws : MethodName := ⟨RX9, "laws", "(I)I"⟩
abbrev cX9_loans : ByteArray := prog_1_method_12_code
def yX9_loans : MethodName := ⟨RX9, "loans", "()I"⟩
abbrev cX9_common : ByteArray := prog_1_method_13_code
def yX9_common : MethodName := ⟨RX9, "common", "(II)I"⟩
abbrev cX9_length : ByteArray := prog_1_method_14_code
def yX9_length : MethodName := ⟨RX9, "length", "(II)I"⟩
abbrev cX9_soundAt : ByteArray := prog_1_method_15_code
def yX9_soundAt : MethodName := ⟨RX9, "soundAt", "(III)I"⟩
abbrev cX9_origin : ByteArray := prog_1_method_16_code
def yX9_origin : MethodName := ⟨RX9, "origin", "(II)I"⟩
abbrev cX9_changedBy : ByteArray := prog_1_method_17_code
def yX9_changedBy : MethodName := ⟨RX9, "changedBy", "(II)I"⟩
abbrev cX9_wealth : ByteArray := prog_1_method_18_code
def yX9_wealth : MethodName := ⟨RX9, "wealth", "(I)I"⟩
abbrev cX9_alike : ByteArray := prog_1_method_19_code
def yX9_alike : MethodName := ⟨RX9, "alike", "(I)I"⟩
abbrev cX9_soundsOf : ByteArray := prog_1_method_20_code
def yX9_soundsOf : MethodName := ⟨RX9, "soundsOf", "(I)I"⟩
abbrev cX9_cost : ByteArray := prog_1_method_21_code
def yX9_cost : MethodName := ⟨RX9, "cost", "(III)I"⟩
abbrev cX9_columns : ByteArray := prog_1_method_22_code
def yX9_columns : MethodName := ⟨RX9, "columns", "(III)I"⟩
abbrev cX9_columnAt : ByteArray := prog_1_method_23_code
def yX9_columnAt : MethodName := ⟨RX9, "columnAt", "(IIII)I"⟩
abbrev cX9_answers : ByteArray := prog_1_method_24_code
def yX9_answers : MethodName := ⟨RX9, "answers", "(IIII)I"⟩
abbrev cX9_mainAnswer : ByteArray := prog_1_method_25_code
def yX9_mainAnswer : MethodName := ⟨RX9, "mainAnswer", "(III)I"⟩
abbrev cX9_far : ByteArray := prog_1_method_26_code
def yX9_far : MethodName := ⟨RX9, "far", "(II)D"⟩
abbrev cX9_nearest : ByteArray := prog_1_method_27_code
def yX9_nearest : MethodName := ⟨RX9, "nearest", "(I)I"⟩
abbrev cX9_recalled : ByteArray := prog_1_method_28_code
def yX9_recalled : MethodName := ⟨RX9, "recalled", "(II)I"⟩
abbrev cX9_recalledAt : ByteArray := prog_1_method_29_code
def yX9_recalledAt : MethodName := ⟨RX9, "recalledAt", "(III)I"⟩
abbrev cX9_recalledWell : ByteArray := prog_1_method_30_code
def yX9_recalledWell : MethodName := ⟨RX9, "recalledWell", "(I)I"⟩
abbrev cX9_swapped : ByteArray := prog_1_method_31_code
def yX9_swapped : MethodName := ⟨RX9, "swapped", "(II)I"⟩
abbrev cX9_without : ByteArray := prog_1_method_32_code
def yX9_without : MethodName := ⟨RX9, "without", "(II)I"⟩
abbrev cX9_withoutLoan : ByteArray := prog_1_method_33_code
def yX9_withoutLoan : MethodName := ⟨RX9, "withoutLoan", "(I)I"⟩
abbrev cX9_looksLent : ByteArray := prog_1_method_34_code
def yX9_looksLent : MethodName := ⟨RX9, "looksLent", "(II)Z"⟩
abbrev cX9_digest : ByteArray := prog_1_method_35_code
def yX9_digest : MethodName := ⟨RX9, "digest", "()J"⟩
abbrev cX9_requireThere : ByteArray := prog_1_method_36_code
def yX9_requireThere : MethodName := ⟨RX9, "requireThere", "(Z)V"⟩
abbrev cX9_refuseUnless : ByteArray := prog_1_method_37_code
def yX9_refuseUnless : MethodName := ⟨RX9, "refuseUnless", "(Z)V"⟩
abbrev cX9_requireState : ByteArray := prog_1_method_38_code
def yX9_requireState : MethodName := ⟨RX9, "requireState", "(Z)V"⟩
abbrev cX9_isSound : ByteArray := prog_1_method_39_code
def yX9_isSound : MethodName := ⟨RX9, "isSound", "(I)Z"⟩
abbrev cX9_isSoundOrNone : ByteArray := prog_1_method_40_code
def yX9_isSoundOrNone : MethodName := ⟨RX9, "isSoundOrNone", "(I)Z"⟩
abbrev cX9_isMeaning : ByteArray := prog_1_method_41_code
def yX9_isMeaning : MethodName := ⟨RX9, "isMeaning", "(I)Z"⟩
abbrev cX9_isNeighbourSet : ByteArray := prog_1_method_42_code
def yX9_isNeighbourSet : MethodName := ⟨RX9, "isNeighbourSet", "(I)Z"⟩
abbrev cX9_isLanguage : ByteArray := prog_1_method_43_code
def yX9_isLanguage : MethodName := ⟨RX9, "isLanguage", "(I)Z"⟩
abbrev cX9_isLaw : ByteArray := prog_1_method_44_code
def yX9_isLaw : MethodName := ⟨RX9, "isLaw", "(II)Z"⟩
abbrev cX9_lawsOf : ByteArray := prog_1_method_45_code
def yX9_lawsOf : MethodName := ⟨RX9, "lawsOf", "(I)Ljava/util/ArrayList;"⟩
abbrev cX9_soundIn : ByteArray := prog_1_method_46_code
def yX9_soundIn : MethodName := ⟨RX9, "soundIn", "(JI)I"⟩
abbrev cX9_forgetMeaning : ByteArray := prog_1_method_47_code
def yX9_forgetMeaning : MethodName := ⟨RX9, "forgetMeaning", "(I)V"⟩
abbrev cX9_forgetAll : ByteArray := prog_1_method_48_code
def yX9_forgetAll : MethodName := ⟨RX9, "forgetAll", "()V"⟩
abbrev cX9_countWords : ByteArray := prog_1_method_49_code
def yX9_countWords : MethodName := ⟨RX9, "countWords", "(I)I"⟩
abbrev cX9_countAlike : ByteArray := prog_1_method_50_code
def yX9_countAlike : MethodName := ⟨RX9, "countAlike", "(I)I"⟩
abbrev cX9_collectSounds : ByteArray := prog_1_method_51_code
def yX9_collectSounds : MethodName := ⟨RX9, "collectSounds", "(I)I"⟩
abbrev cX9_columnSign : ByteArray := prog_1_method_52_code
def yX9_columnSign : MethodName := ⟨RX9, "columnSign", "(I)I"⟩
abbrev cX9_leastCost : ByteArray := prog_1_method_53_code
def yX9_leastCost : MethodName := ⟨RX9, "leastCost", "(III)I"⟩
abbrev cX9_layOut : ByteArray := prog_1_method_54_code
def yX9_layOut : MethodName := ⟨RX9, "layOut", "(III)I"⟩
abbrev cX9_collectAnswers : ByteArray := prog_1_method_55_code
def yX9_collectAnswers : MethodName := ⟨RX9, "collectAnswers", "(III)V"⟩
abbrev cX9_distanceOf : ByteArray := prog_1_method_56_code
def yX9_distanceOf : MethodName := ⟨RX9, "distanceOf", "(II)D"⟩
abbrev cX9_nearestTo : ByteArray := prog_1_method_57_code
def yX9_nearestTo : MethodName := ⟨RX9, "nearestTo", "(I)I"⟩
abbrev cX9_isWitness : ByteArray := prog_1_method_58_code
def yX9_isWitness : MethodName := ⟨RX9, "isWitness", "(III)Z"⟩
abbrev cX9_recall : ByteArray := prog_1_method_59_code
def yX9_recall : MethodName := ⟨RX9, "recall", "(II)J"⟩
abbrev cX9_openVotes : ByteArray := prog_1_method_60_code
def yX9_openVotes : MethodName := ⟨RX9, "openVotes", "(J)V"⟩
abbrev cX9_castVotes : ByteArray := prog_1_method_61_code
def yX9_castVotes : MethodName := ⟨RX9, "castVotes", "(I)V"⟩
abbrev cX9_elected : ByteArray := prog_1_method_62_code
def yX9_elected : MethodName := ⟨RX9, "elected", "(I)J"⟩
abbrev cX9_countRecalledWell : ByteArray := prog_1_method_63_code
def yX9_countRecalledWell : MethodName := ⟨RX9, "countRecalledWell", "(I)I"⟩
abbrev cX9_suppose : ByteArray := prog_1_method_64_code
def yX9_suppose : MethodName := ⟨RX9, "suppose", "(ILTonguerootFamily$Language;)V"⟩
abbrev cX9_differs : ByteArray := prog_1_method_65_code
def yX9_differs : MethodName := ⟨RX9, "differs", "(LTonguerootFamily$Lexicon;II)Z"⟩
abbrev cX9_countDifferent : ByteArray := prog_1_method_66_code
def yX9_countDifferent : MethodName := ⟨RX9, "countDifferent", "(I)I"⟩
abbrev cX9_mixed : ByteArray := prog_1_method_67_code
def yX9_mixed : MethodName := ⟨RX9, "mixed", "(JJ)J"⟩
abbrev cX9_mixSounds : ByteArray := prog_1_method_68_code
def yX9_mixSounds : MethodName := ⟨RX9, "mixSounds", "(JJ)J"⟩
abbrev cX9_mixWord : ByteArray := prog_1_method_69_code
def yX9_mixWord : MethodName := ⟨RX9, "mixWord", "(JII)J"⟩
abbrev cX9_mixCosts : ByteArray := prog_1_method_70_code
def yX9_mixCosts : MethodName := ⟨RX9, "mixCosts", "(J)J"⟩
def RX10 : String := "TonguerootFamilyModel"
def TX10 : u_T := fun k => match k with
  | 0 => ("TonguerootFamilyModel", "thrown", "I", false)
  | 1 => ("TonguerootFamilyModel", "features", "[I", true)
  | 2 => ("TonguerootFamilyModel", "mother", "[J", true)
  | 3 => ("TonguerootFamilyModel", "open", "I", false)
  | 4 => ("TonguerootFamilyModel", "languages", "I", false)
  | 5 => ("TonguerootFamilyModel", "parent", "[I", true)
  | 6 => ("TonguerootFamilyModel", "laws", "[I", true)
  | 7 => ("TonguerootFamilyModel", "sounds", "[I", true)
  | 8 => ("TonguerootFamilyModel", "becomes", "[I", true)
  | 9 => ("TonguerootFamilyModel", "ahead", "[I", true)
  | 10 => ("TonguerootFamilyModel", "behind", "[I", true)
  | 11 => ("TonguerootFamilyModel", "loans", "I", false)
  | 12 => ("TonguerootFamilyModel", "loanOf", "[I", true)
  | 13 => ("TonguerootFamilyModel", "loanFrom", "[I", true)
  | 14 => ("TonguerootFamilyModel", "loanTo", "[I", true)
  | 15 => ("TonguerootFamilyModel", "moment", "[I", true)
  | 16 => ("TonguerootFamilyModel", "isLeftOut", "[Z", true)
  | 17 => ("TonguerootFamilyModel", "words", "[J", true)
  | 18 => ("TonguerootFamilyModel", "origins", "[I", true)
  | 19 => ("TonguerootFamilyModel", "changes", "[I", true)
  | 20 => ("TonguerootFamilyModel", "rest", "[I", true)
  | 21 => ("TonguerootFamilyModel", "columns", "I", false)
  | 22 => ("TonguerootFamilyModel", "first", "[I", true)
  | 23 => ("TonguerootFamilyModel", "second", "[I", true)
  | 24 => ("TonguerootFamilyModel", "ones", "[I", true)
  | 25 => ("TonguerootFamilyModel", "others", "[I", true)
  | _ => ("TonguerootFamilyModel", "votes", "[I", true)
def tyX10 : Nat → FieldType := fun k => match k with
  | 0 => .int
  | 1 => .array .int
  | 2 => .array .long
  | 3 => .int
  | 4 => .int
  | 5 => .array .int
  | 6 => .array .int
  | 7 => .array .int
  | 8 => .array .int
  | 9 => .array .int
  | 10 => .array .int
  | 11 => .int
  | 12 => .array .int
  | 13 => .array .int
  | 14 => .array .int
  | 15 => .array .int
  | 16 => .array .boolean
  | 17 => .array .long
  | 18 => .array .int
  | 19 => .array .int
  | 20 => .array .int
  | 21 => .int
  | 22 => .array .int
  | 23 => .array .int
  | 24 => .array .int
  | 25 => .array .int
  | _ => .array .int
abbrev wsX100 : List Cond := u_ws RX10 TX10 27
theorem nmX10 : ∀ a, a < 27 → ∀ b, b < 27 → a ≠ b → (TX10 a).2.1 ≠ (TX10 b).2.1 := by decide +kernel
theorem tyX10_ok : ∀ k, k < 27 → parseFieldDescriptor (TX10 k).2.2.1 = some (tyX10 k) := by decide +kernel
abbrev cX10_init : ByteArray := prog_12_method_1_code
def yX10_init : MethodName := ⟨RX10, "<init>", "()V"⟩
abbrev cX10_thrown : ByteArray := prog_12_method_2_code
def yX10_thrown : MethodName := ⟨RX10, "thrown", "()I"⟩
abbrev cX10_no : ByteArray := prog_12_method_3_code
def yX10_no : MethodName := ⟨RX10, "no", "(I)I"⟩
abbrev cX10_ok : ByteArray := prog_12_method_4_code
def yX10_ok : MethodName := ⟨RX10, "ok", "(I)I"⟩
abbrev cX10_isIn : ByteArray := prog_12_method_5_code
def yX10_isIn : MethodName := ⟨RX10, "isIn", "(III)Z"⟩
abbrev cX10_isSound : ByteArray := prog_12_method_6_code
def yX10_isSound : MethodName := ⟨RX10, "isSound", "(I)Z"⟩
abbrev cX10_isMeaning : ByteArray := prog_12_method_7_code
def yX10_isMeaning : MethodName := ⟨RX10, "isMeaning", "(I)Z"⟩
abbrev cX10_isLanguage : ByteArray := prog_12_method_8_code
def yX10_isLanguage : MethodName := ⟨RX10, "isLanguage", "(I)Z"⟩
abbrev cX10_length : ByteArray := prog_12_method_9_code
def yX10_length : MethodName := ⟨RX10, "length", "(J)I"⟩
abbrev cX10_at : ByteArray := prog_12_method_10_code
def yX10_at : MethodName := ⟨RX10, "at", "(JI)I"⟩
abbrev cX10_turned : ByteArray := prog_12_method_11_code
def yX10_turned : MethodName := ⟨RX10, "turned", "(II)I"⟩
abbrev cX10_isBeside : ByteArray := prog_12_method_12_code
def yX10_isBeside : MethodName := ⟨RX10, "isBeside", "(IZI)Z"⟩
abbrev cX10_changed : ByteArray := prog_12_method_13_code
def yX10_changed : MethodName := ⟨RX10, "changed", "(JI)J"⟩
abbrev cX10_solve : ByteArray := prog_12_method_14_code
def yX10_solve : MethodName := ⟨RX10, "solve", "()V"⟩
abbrev cX10_grow : ByteArray := prog_12_method_15_code
def yX10_grow : MethodName := ⟨RX10, "grow", "(II)V"⟩
abbrev cX10_borrow : ByteArray := prog_12_method_16_code
def yX10_borrow : MethodName := ⟨RX10, "borrow", "(IIII)V"⟩
abbrev cX10_wordOf : ByteArray := prog_12_method_17_code
def yX10_wordOf : MethodName := ⟨RX10, "wordOf", "(II)J"⟩
abbrev cX10_hasWord : ByteArray := prog_12_method_18_code
def yX10_hasWord : MethodName := ⟨RX10, "hasWord", "(II)Z"⟩
abbrev cX10_originOf : ByteArray := prog_12_method_19_code
def yX10_originOf : MethodName := ⟨RX10, "originOf", "(II)I"⟩
abbrev cX10_areKin : ByteArray := prog_12_method_20_code
def yX10_areKin : MethodName := ⟨RX10, "areKin", "(III)Z"⟩
abbrev cX10_setSound : ByteArray := prog_12_method_21_code
def yX10_setSound : MethodName := ⟨RX10, "setSound", "(II)I"⟩
abbrev cX10_word : ByteArray := prog_12_method_22_code
def yX10_word : MethodName := ⟨RX10, "word", "(I)I"⟩
abbrev cX10_spell : ByteArray := prog_12_method_23_code
def yX10_spell : MethodName := ⟨RX10, "spell", "(I)I"⟩
abbrev cX10_language : ByteArray := prog_12_method_24_code
def yX10_language : MethodName := ⟨RX10, "language", "(I)I"⟩
abbrev cX10_law : ByteArray := prog_12_method_25_code
def yX10_law : MethodName := ⟨RX10, "law", "(IIIII)I"⟩
abbrev cX10_unlaw : ByteArray := prog_12_method_26_code
def yX10_unlaw : MethodName := ⟨RX10, "unlaw", "(I)I"⟩
abbrev cX10_loan : ByteArray := prog_12_method_27_code
def yX10_loan : MethodName := ⟨RX10, "loan", "(IIII)I"⟩
abbrev cX10_languages : ByteArray := prog_12_method_28_code
def yX10_languages : MethodName := ⟨RX10, "languages", "()I"⟩
abbrev cX10_laws : ByteArray := prog_12_method_29_code
def yX10_laws : MethodName := ⟨RX10, "laws", "(I)I"⟩
abbrev cX10_loans : ByteArray := prog_12_method_30_code
def yX10_loans : MethodName := ⟨RX10, "loans", "()I"⟩
abbrev cX10_common : ByteArray := prog_12_method_31_code
def yX10_common : MethodName := ⟨RX10, "common", "(II)I"⟩
abbrev cX10_isAsked : ByteArray := prog_12_method_32_code
def yX10_isAsked : MethodName := ⟨RX10, "isAsked", "(II)Z"⟩
abbrev cX10_length_ : ByteArray := prog_12_method_33_code
def yX10_length_ : MethodName := ⟨RX10, "length", "(II)I"⟩
abbrev cX10_soundAt : ByteArray := prog_12_method_34_code
def yX10_soundAt : MethodName := ⟨RX10, "soundAt", "(III)I"⟩
abbrev cX10_origin : ByteArray := prog_12_method_35_code
def yX10_origin : MethodName := ⟨RX10, "origin", "(II)I"⟩
abbrev cX10_changesOf : ByteArray := prog_12_method_36_code
def yX10_changesOf : MethodName := ⟨RX10, "changesOf", "(II)I"⟩
abbrev cX10_changedBy : ByteArray := prog_12_method_37_code
def yX10_changedBy : MethodName := ⟨RX10, "changedBy", "(II)I"⟩
abbrev cX10_wealthOf : ByteArray := prog_12_method_38_code
def yX10_wealthOf : MethodName := ⟨RX10, "wealthOf", "(I)I"⟩
abbrev cX10_wealth : ByteArray := prog_12_method_39_code
def yX10_wealth : MethodName := ⟨RX10, "wealth", "(I)I"⟩
abbrev cX10_alikeIn : ByteArray := prog_12_method_40_code
def yX10_alikeIn : MethodName := ⟨RX10, "alikeIn", "(I)I"⟩
abbrev cX10_alike : ByteArray := prog_12_method_41_code
def yX10_alike : MethodName := ⟨RX10, "alike", "(I)I"⟩
abbrev cX10_soundsIn : ByteArray := prog_12_method_42_code
def yX10_soundsIn : MethodName := ⟨RX10, "soundsIn", "(I)I"⟩
abbrev cX10_soundsOf : ByteArray := prog_12_method_43_code
def yX10_soundsOf : MethodName := ⟨RX10, "soundsOf", "(I)I"⟩
abbrev cX10_costOf : ByteArray := prog_12_method_44_code
def yX10_costOf : MethodName := ⟨RX10, "costOf", "(II)I"⟩
abbrev cX10_restAt : ByteArray := prog_12_method_45_code
def yX10_restAt : MethodName := ⟨RX10, "restAt", "(II)I"⟩
abbrev cX10_spread : ByteArray := prog_12_method_46_code
def yX10_spread : MethodName := ⟨RX10, "spread", "(J[I)I"⟩
abbrev cX10_align : ByteArray := prog_12_method_47_code
def yX10_align : MethodName := ⟨RX10, "align", "(JJ)I"⟩
abbrev cX10_areAsked : ByteArray := prog_12_method_48_code
def yX10_areAsked : MethodName := ⟨RX10, "areAsked", "(III)Z"⟩
abbrev cX10_costNow : ByteArray := prog_12_method_49_code
def yX10_costNow : MethodName := ⟨RX10, "costNow", "(III)I"⟩
abbrev cX10_cost : ByteArray := prog_12_method_50_code
def yX10_cost : MethodName := ⟨RX10, "cost", "(III)I"⟩
abbrev cX10_columnsNow : ByteArray := prog_12_method_51_code
def yX10_columnsNow : MethodName := ⟨RX10, "columnsNow", "(III)I"⟩
abbrev cX10_columns : ByteArray := prog_12_method_52_code
def yX10_columns : MethodName := ⟨RX10, "columns", "(III)I"⟩
abbrev cX10_columnAt : ByteArray := prog_12_method_53_code
def yX10_columnAt : MethodName := ⟨RX10, "columnAt", "(IIII)I"⟩
abbrev cX10_answersNow : ByteArray := prog_12_method_54_code
def yX10_answersNow : MethodName := ⟨RX10, "answersNow", "(IIII)I"⟩
abbrev cX10_answers : ByteArray := prog_12_method_55_code
def yX10_answers : MethodName := ⟨RX10, "answers", "(IIII)I"⟩
abbrev cX10_mainAnswer : ByteArray := prog_12_method_56_code
def yX10_mainAnswer : MethodName := ⟨RX10, "mainAnswer", "(III)I"⟩
abbrev cX10_shared : ByteArray := prog_12_method_57_code
def yX10_shared : MethodName := ⟨RX10, "shared", "(II)I"⟩
abbrev cX10_costs : ByteArray := prog_12_method_58_code
def yX10_costs : MethodName := ⟨RX10, "costs", "()[I"⟩
abbrev cX10_farBy : ByteArray := prog_12_method_59_code
def yX10_farBy : MethodName := ⟨RX10, "farBy", "([III)D"⟩
abbrev cX10_far : ByteArray := prog_12_method_60_code
def yX10_far : MethodName := ⟨RX10, "far", "(II)D"⟩
abbrev cX10_nearestBy : ByteArray := prog_12_method_61_code
def yX10_nearestBy : MethodName := ⟨RX10, "nearestBy", "([II)I"⟩
abbrev cX10_nearest : ByteArray := prog_12_method_62_code
def yX10_nearest : MethodName := ⟨RX10, "nearest", "(I)I"⟩
abbrev cX10_recalledNow : ByteArray := prog_12_method_63_code
def yX10_recalledNow : MethodName := ⟨RX10, "recalledNow", "(II)J"⟩
abbrev cX10_recalled : ByteArray := prog_12_method_64_code
def yX10_recalled : MethodName := ⟨RX10, "recalled", "(II)I"⟩
abbrev cX10_recalledAt : ByteArray := prog_12_method_65_code
def yX10_recalledAt : MethodName := ⟨RX10, "recalledAt", "(III)I"⟩
abbrev cX10_wellNow : ByteArray := prog_12_method_66_code
def yX10_wellNow : MethodName := ⟨RX10, "wellNow", "(I)I"⟩
abbrev cX10_recalledWell : ByteArray := prog_12_method_67_code
def yX10_recalledWell : MethodName := ⟨RX10, "recalledWell", "(I)I"⟩
abbrev cX10_told : ByteArray := prog_12_method_68_code
def yX10_told : MethodName := ⟨RX10, "told", "()[J"⟩
abbrev cX10_unlike : ByteArray := prog_12_method_69_code
def yX10_unlike : MethodName := ⟨RX10, "unlike", "([JII)I"⟩
abbrev cX10_swap : ByteArray := prog_12_method_70_code
def yX10_swap : MethodName := ⟨RX10, "swap", "([III)V"⟩
abbrev cX10_swapLaws : ByteArray := prog_12_method_71_code
def yX10_swapLaws : MethodName := ⟨RX10, "swapLaws", "(II)V"⟩
abbrev cX10_swapped : ByteArray := prog_12_method_72_code
def yX10_swapped : MethodName := ⟨RX10, "swapped", "(II)I"⟩
abbrev cX10_without : ByteArray := prog_12_method_73_code
def yX10_without : MethodName := ⟨RX10, "without", "(II)I"⟩
abbrev cX10_withoutLoan : ByteArray := prog_12_method_74_code
def yX10_withoutLoan : MethodName := ⟨RX10, "withoutLoan", "(I)I"⟩
abbrev cX10_unlent : ByteArray := prog_12_method_75_code
def yX10_unlent : MethodName := ⟨RX10, "unlent", "()[J"⟩
abbrev cX10_looksLent : ByteArray := prog_12_method_76_code
def yX10_looksLent : MethodName := ⟨RX10, "looksLent", "(II)Z"⟩
abbrev cX10_digest : ByteArray := prog_12_method_77_code
def yX10_digest : MethodName := ⟨RX10, "digest", "()J"⟩
def RJx145de : String := "java/io/Serializable"
def TJx145de : u_T := fun k => match k with
  | _ => ("", "", "", false)
def tyJx145de : Nat → FieldType := fun k => match k with
  | _ => .int
abbrev wsJx145de0 : List Cond := u_ws RJx145de TJx145de 0
theorem nmJx145de : ∀ a, a < 0 → ∀ b, b < 0 → a ≠ b → (TJx145de a).2.1 ≠ (TJx145de b).2.1 := by decide +kernel
theorem tyJx145de_ok : ∀ k, k < 0 → parseFieldDescriptor (TJx145de k).2.2.1 = some (tyJx145de k) := by decide +kernel
def RJ5 : String := "java/lang/AbstractStringBuilder"
def TJ5 : u_T := fun k => match k with
  | _ => ("", "", "", false)
def tyJ5 : Nat → FieldType := fun k => match k with
  | _ => .int
abbrev wsJ50 : List Cond := u_ws RJ5 TJ5 0
theorem nmJ5 : ∀ a, a < 0 → ∀ b, b < 0 → a ≠ b → (TJ5 a).2.1 ≠ (TJ5 b).2.1 := by decide +kernel
theorem tyJ5_ok : ∀ k, k < 0 → parseFieldDescriptor (TJ5 k).2.2.1 = some (tyJ5 k) := by decide +kernel
abbrev cJ5_init_d00df : ByteArray := prog_14_method_2_code
def yJ5_init_d00df : MethodName := ⟨RJ5, "<init>", "(I)V"⟩
abbrev cJ5_length_8abf5 : ByteArray := prog_14_method_6_code
def yJ5_length_8abf5 : MethodName := ⟨RJ5, "length", "()I"⟩
abbrev cJ5_ensureCapacityInternal_d00df : ByteArray := prog_14_method_9_code
def yJ5_ensureCapacityInternal_d00df : MethodName := ⟨RJ5, "ensureCapacityInternal", "(I)V"⟩
abbrev cJ5_newCapacity_0f7a4 : ByteArray := prog_14_method_10_code
def yJ5_newCapacity_0f7a4 : MethodName := ⟨RJ5, "newCapacity", "(I)I"⟩
abbrev cJ5_inflate_da8c8 : ByteArray := prog_14_method_11_code
def yJ5_inflate_da8c8 : MethodName := ⟨RJ5, "inflate", "()V"⟩
abbrev cJ5_append_cf1ce : ByteArray := prog_14_method_22_code
def yJ5_append_cf1ce : MethodName := ⟨RJ5, "append", "(Ljava/lang/String;)Ljava/lang/AbstractStringBuilder;"⟩
abbrev cJ5_appendNull_278bc : ByteArray := prog_14_method_26_code
def yJ5_appendNull_278bc : MethodName := ⟨RJ5, "appendNull", "()Ljava/lang/AbstractStringBuilder;"⟩
abbrev cJ5_append_c97b9 : ByteArray := prog_14_method_32_code
def yJ5_append_c97b9 : MethodName := ⟨RJ5, "append", "(I)Ljava/lang/AbstractStringBuilder;"⟩
abbrev cJ5_getValue_6d5f1 : ByteArray := prog_14_method_64_code
def yJ5_getValue_6d5f1 : MethodName := ⟨RJ5, "getValue", "()[B"⟩
abbrev cJ5_isLatin1_aae02 : ByteArray := prog_14_method_68_code
def yJ5_isLatin1_aae02 : MethodName := ⟨RJ5, "isLatin1", "()Z"⟩
abbrev cJ5_inflateIfNeededFor_a7421 : ByteArray := prog_14_method_71_code
def yJ5_inflateIfNeededFor_a7421 : MethodName := ⟨RJ5, "inflateIfNeededFor", "(Ljava/lang/String;)V"⟩
abbrev cJ5_putStringAt_47b60 : ByteArray := prog_14_method_73_code
def yJ5_putStringAt_47b60 : MethodName := ⟨RJ5, "putStringAt", "(ILjava/lang/String;)V"⟩
def RJx2cfe8 : String := "java/lang/Appendable"
def TJx2cfe8 : u_T := fun k => match k with
  | _ => ("", "", "", false)
def tyJx2cfe8 : Nat → FieldType := fun k => match k with
  | _ => .int
abbrev wsJx2cfe80 : List Cond := u_ws RJx2cfe8 TJx2cfe8 0
theorem nmJx2cfe8 : ∀ a, a < 0 → ∀ b, b < 0 → a ≠ b → (TJx2cfe8 a).2.1 ≠ (TJx2cfe8 b).2.1 := by decide +kernel
theorem tyJx2cfe8_ok : ∀ k, k < 0 → parseFieldDescriptor (TJx2cfe8 k).2.2.1 = some (tyJx2cfe8 k) := by decide +kernel
def RJx9f9b0 : String := "java/lang/CharSequence"
def TJx9f9b0 : u_T := fun k => match k with
  | _ => ("", "", "", false)
def tyJx9f9b0 : Nat → FieldType := fun k => match k with
  | _ => .int
abbrev wsJx9f9b00 : List Cond := u_ws RJx9f9b0 TJx9f9b0 0
theorem nmJx9f9b0 : ∀ a, a < 0 → ∀ b, b < 0 → a ≠ b → (TJx9f9b0 a).2.1 ≠ (TJx9f9b0 b).2.1 := by decide +kernel
theorem tyJx9f9b0_ok : ∀ k, k < 0 → parseFieldDescriptor (TJx9f9b0 k).2.2.1 = some (tyJx9f9b0 k) := by decide +kernel
def RJx8e188 : String := "java/lang/Cloneable"
def TJx8e188 : u_T := fun k => match k with
  | _ => ("", "", "", false)
def tyJx8e188 : Nat → FieldType := fun k => match k with
  | _ => .int
abbrev wsJx8e1880 : List Cond := u_ws RJx8e188 TJx8e188 0
theorem nmJx8e188 : ∀ a, a < 0 → ∀ b, b < 0 → a ≠ b → (TJx8e188 a).2.1 ≠ (TJx8e188 b).2.1 := by decide +kernel
theorem tyJx8e188_ok : ∀ k, k < 0 → parseFieldDescriptor (TJx8e188 k).2.2.1 = some (tyJx8e188 k) := by decide +kernel
def RJxb160c : String := "java/lang/Comparable"
def TJxb160c : u_T := fun k => match k with
  | _ => ("", "", "", false)
def tyJxb160c : Nat → FieldType := fun k => match k with
  | _ => .int
abbrev wsJxb160c0 : List Cond := u_ws RJxb160c TJxb160c 0
theorem nmJxb160c : ∀ a, a < 0 → ∀ b, b < 0 → a ≠ b → (TJxb160c a).2.1 ≠ (TJxb160c b).2.1 := by decide +kernel
theorem tyJxb160c_ok : ∀ k, k < 0 → parseFieldDescriptor (TJxb160c k).2.2.1 = some (tyJxb160c k) := by decide +kernel
def RJ6 : String := "java/lang/Integer"
def TJ6 : u_T := fun k => match k with
  | _ => ("", "", "", false)
def tyJ6 : Nat → FieldType := fun k => match k with
  | _ => .int
abbrev wsJ60 : List Cond := u_ws RJ6 TJ6 0
theorem nmJ6 : ∀ a, a < 0 → ∀ b, b < 0 → a ≠ b → (TJ6 a).2.1 ≠ (TJ6 b).2.1 := by decide +kernel
theorem tyJ6_ok : ∀ k, k < 0 → parseFieldDescriptor (TJ6 k).2.2.1 = some (tyJ6 k) := by decide +kernel
abbrev cJ6_getChars_ba4f3 : ByteArray := prog_23_method_12_code
def yJ6_getChars_ba4f3 : MethodName := ⟨RJ6, "getChars", "(II[B)I"⟩
abbrev cJ6_stringSize_0f7a4 : ByteArray := prog_23_method_13_code
def yJ6_stringSize_0f7a4 : MethodName := ⟨RJ6, "stringSize", "(I)I"⟩
abbrev cJ6_bitCount_0f7a4 : ByteArray := prog_23_method_49_code
def yJ6_bitCount_0f7a4 : MethodName := ⟨RJ6, "bitCount", "(I)I"⟩
def RJxab1ab : String := "java/lang/Iterable"
def TJxab1ab : u_T := fun k => match k with
  | _ => ("", "", "", false)
def tyJxab1ab : Nat → FieldType := fun k => match k with
  | _ => .int
abbrev wsJxab1ab0 : List Cond := u_ws RJxab1ab TJxab1ab 0
theorem nmJxab1ab : ∀ a, a < 0 → ∀ b, b < 0 → a ≠ b → (TJxab1ab a).2.1 ≠ (TJxab1ab b).2.1 := by decide +kernel
theorem tyJxab1ab_ok : ∀ k, k < 0 → parseFieldDescriptor (TJxab1ab k).2.2.1 = some (tyJxab1ab k) := by decide +kernel
def RJ9 : String := "java/lang/Math"
def TJ9 : u_T := fun k => match k with
  | _ => ("", "", "", false)
def tyJ9 : Nat → FieldType := fun k => match k with
  | _ => .int
abbrev wsJ90 : List Cond := u_ws RJ9 TJ9 0
theorem nmJ9 : ∀ a, a < 0 → ∀ b, b < 0 → a ≠ b → (TJ9 a).2.1 ≠ (TJ9 b).2.1 := by decide +kernel
theorem tyJ9_ok : ∀ k, k < 0 → parseFieldDescriptor (TJ9 k).2.2.1 = some (tyJ9 k) := by decide +kernel
abbrev cJ9_max_7cf53 : ByteArray := prog_25_method_65_code
def yJ9_max_7cf53 : MethodName := ⟨RJ9, "max", "(II)I"⟩
abbrev cJ9_min_7cf53 : ByteArray := prog_25_method_69_code
def yJ9_min_7cf53 : MethodName := ⟨RJ9, "min", "(II)I"⟩
def RJxd2413 : String := "java/lang/Number"
def TJxd2413 : u_T := fun k => match k with
  | _ => ("", "", "", false)
def tyJxd2413 : Nat → FieldType := fun k => match k with
  | _ => .int
abbrev wsJxd24130 : List Cond := u_ws RJxd2413 TJxd2413 0
theorem nmJxd2413 : ∀ a, a < 0 → ∀ b, b < 0 → a ≠ b → (TJxd2413 a).2.1 ≠ (TJxd2413 b).2.1 := by decide +kernel
theorem tyJxd2413_ok : ∀ k, k < 0 → parseFieldDescriptor (TJxd2413 k).2.2.1 = some (tyJxd2413 k) := by decide +kernel
def RJ0 : String := "java/lang/String"
def TJ0 : u_T := fun k => match k with
  | 0 => ("java/lang/String", "value", "[B", true)
  | 1 => ("java/lang/String", "coder", "B", true)
  | 2 => ("java/lang/String", "hash", "I", false)
  | _ => ("java/lang/String", "hashIsZero", "Z", false)
def tyJ0 : Nat → FieldType := fun k => match k with
  | 0 => .array .byte
  | 1 => .byte
  | 2 => .int
  | _ => .boolean
abbrev wsJ00 : List Cond := u_ws RJ0 TJ0 4
theorem nmJ0 : ∀ a, a < 4 → ∀ b, b < 4 → a ≠ b → (TJ0 a).2.1 ≠ (TJ0 b).2.1 := by decide +kernel
theorem tyJ0_ok : ∀ k, k < 4 → parseFieldDescriptor (TJ0 k).2.2.1 = some (tyJ0 k) := by decide +kernel
abbrev cJ0_init_81219 : ByteArray := prog_28_method_53_code
def yJ0_init_81219 : MethodName := ⟨RJ0, "<init>", "(Ljava/lang/StringBuilder;)V"⟩
abbrev cJ0_length_8abf5 : ByteArray := prog_28_method_54_code
def yJ0_length_8abf5 : MethodName := ⟨RJ0, "length", "()I"⟩
abbrev cJ0_getBytes_840e7 : ByteArray := prog_28_method_147_code
def yJ0_getBytes_840e7 : MethodName := ⟨RJ0, "getBytes", "([BIB)V"⟩
abbrev cJ0_init_db425 : ByteArray := prog_28_method_150_code
def yJ0_init_db425 : MethodName := ⟨RJ0, "<init>", "(Ljava/lang/AbstractStringBuilder;Ljava/lang/Void;)V"⟩
abbrev cJ0_coder_7d493 : ByteArray := prog_28_method_152_code
def yJ0_coder_7d493 : MethodName := ⟨RJ0, "coder", "()B"⟩
abbrev cJ0_checkBoundsOffCount_cabcc : ByteArray := prog_28_method_157_code
def yJ0_checkBoundsOffCount_cabcc : MethodName := ⟨RJ0, "checkBoundsOffCount", "(III)I"⟩
abbrev cJ0_checkBoundsBeginEnd_23922 : ByteArray := prog_28_method_158_code
def yJ0_checkBoundsBeginEnd_23922 : MethodName := ⟨RJ0, "checkBoundsBeginEnd", "(III)V"⟩
def RJ4 : String := "java/lang/StringBuilder"
def TJ4 : u_T := fun k => match k with
  | 0 => ("java/lang/AbstractStringBuilder", "value", "[B", false)
  | 1 => ("java/lang/AbstractStringBuilder", "coder", "B", false)
  | 2 => ("java/lang/AbstractStringBuilder", "maybeLatin1", "Z", false)
  | _ => ("java/lang/AbstractStringBuilder", "count", "I", false)
def tyJ4 : Nat → FieldType := fun k => match k with
  | 0 => .array .byte
  | 1 => .byte
  | 2 => .boolean
  | _ => .int
abbrev wsJ40 : List Cond := u_ws RJ4 TJ4 4
theorem nmJ4 : ∀ a, a < 4 → ∀ b, b < 4 → a ≠ b → (TJ4 a).2.1 ≠ (TJ4 b).2.1 := by decide +kernel
theorem tyJ4_ok : ∀ k, k < 4 → parseFieldDescriptor (TJ4 k).2.2.1 = some (tyJ4 k) := by decide +kernel
abbrev cJ4_init_da8c8 : ByteArray := prog_29_method_1_code
def yJ4_init_da8c8 : MethodName := ⟨RJ4, "<init>", "()V"⟩
abbrev cJ4_append_15ec4 : ByteArray := prog_29_method_7_code
def yJ4_append_15ec4 : MethodName := ⟨RJ4, "append", "(Ljava/lang/String;)Ljava/lang/StringBuilder;"⟩
abbrev cJ4_append_bf812 : ByteArray := prog_29_method_15_code
def yJ4_append_bf812 : MethodName := ⟨RJ4, "append", "(I)Ljava/lang/StringBuilder;"⟩
abbrev cJ4_toString_0e30d : ByteArray := prog_29_method_42_code
def yJ4_toString_0e30d : MethodName := ⟨RJ4, "toString", "()Ljava/lang/String;"⟩
abbrev cJ4_length_8abf5 : ByteArray := prog_29_method_93_code
def yJ4_length_8abf5 : MethodName := ⟨RJ4, "length", "()I"⟩
def RJ1 : String := "java/lang/StringLatin1"
def TJ1 : u_T := fun k => match k with
  | _ => ("", "", "", false)
def tyJ1 : Nat → FieldType := fun k => match k with
  | _ => .int
abbrev wsJ10 : List Cond := u_ws RJ1 TJ1 0
theorem nmJ1 : ∀ a, a < 0 → ∀ b, b < 0 → a ≠ b → (TJ1 a).2.1 ≠ (TJ1 b).2.1 := by decide +kernel
theorem tyJ1_ok : ∀ k, k < 0 → parseFieldDescriptor (TJ1 k).2.2.1 = some (tyJ1 k) := by decide +kernel
abbrev cJ1_inflate_0e8fd : ByteArray := prog_30_method_50_code
def yJ1_inflate_0e8fd : MethodName := ⟨RJ1, "inflate", "([BI[BII)V"⟩
def RJ2 : String := "java/lang/StringUTF16"
def TJ2 : u_T := fun k => match k with
  | _ => ("", "", "", false)
def tyJ2 : Nat → FieldType := fun k => match k with
  | _ => .int
abbrev wsJ20 : List Cond := u_ws RJ2 TJ2 0
theorem nmJ2 : ∀ a, a < 0 → ∀ b, b < 0 → a ≠ b → (TJ2 a).2.1 ≠ (TJ2 b).2.1 := by decide +kernel
theorem tyJ2_ok : ∀ k, k < 0 → parseFieldDescriptor (TJ2 k).2.2.1 = some (tyJ2 k) := by decide +kernel
abbrev cJ2_newBytesFor_77867 : ByteArray := prog_31_method_2_code
def yJ2_newBytesFor_77867 : MethodName := ⟨RJ2, "newBytesFor", "(I)[B"⟩
abbrev cJ2_newBytesLength_0f7a4 : ByteArray := prog_31_method_3_code
def yJ2_newBytesLength_0f7a4 : MethodName := ⟨RJ2, "newBytesLength", "(I)I"⟩
abbrev cJ2_putChar_b72d1 : ByteArray := prog_31_method_4_code
def yJ2_putChar_b72d1 : MethodName := ⟨RJ2, "putChar", "([BII)V"⟩
abbrev cJ2_getChar_3b067 : ByteArray := prog_31_method_5_code
def yJ2_getChar_3b067 : MethodName := ⟨RJ2, "getChar", "([BI)C"⟩
abbrev cJ2_length_9d52b : ByteArray := prog_31_method_6_code
def yJ2_length_9d52b : MethodName := ⟨RJ2, "length", "([B)I"⟩
abbrev cJ2_coderFromArrayLen_85cad : ByteArray := prog_31_method_15_code
def yJ2_coderFromArrayLen_85cad : MethodName := ⟨RJ2, "coderFromArrayLen", "([BI)B"⟩
abbrev cJ2_compress_39247 : ByteArray := prog_31_method_17_code
def yJ2_compress_39247 : MethodName := ⟨RJ2, "compress", "([BII)[B"⟩
abbrev cJ2_compress_5af95 : ByteArray := prog_31_method_22_code
def yJ2_compress_5af95 : MethodName := ⟨RJ2, "compress", "([BI[BII)I"⟩
abbrev cJ2_getChars_46870 : ByteArray := prog_31_method_77_code
def yJ2_getChars_46870 : MethodName := ⟨RJ2, "getChars", "(III[B)I"⟩
abbrev cJ2_putCharsAt_cd4e5 : ByteArray := prog_31_method_81_code
def yJ2_putCharsAt_cd4e5 : MethodName := ⟨RJ2, "putCharsAt", "([BICCCC)I"⟩
abbrev cJ2_inflate_0e8fd : ByteArray := prog_31_method_86_code
def yJ2_inflate_0e8fd : MethodName := ⟨RJ2, "inflate", "([BI[BII)V"⟩
abbrev cJ2_getChars_ba4f3 : ByteArray := prog_31_method_89_code
def yJ2_getChars_ba4f3 : MethodName := ⟨RJ2, "getChars", "(II[B)I"⟩
abbrev cJ2_checkBoundsBeginEnd_d044e : ByteArray := prog_31_method_93_code
def yJ2_checkBoundsBeginEnd_d044e : MethodName := ⟨RJ2, "checkBoundsBeginEnd", "(II[B)V"⟩
abbrev cJ2_checkBoundsOffCount_d044e : ByteArray := prog_31_method_94_code
def yJ2_checkBoundsOffCount_d044e : MethodName := ⟨RJ2, "checkBoundsOffCount", "(II[B)V"⟩
def RJ10 : String := "java/lang/System"
def TJ10 : u_T := fun k => match k with
  | _ => ("", "", "", false)
def tyJ10 : Nat → FieldType := fun k => match k with
  | _ => .int
abbrev wsJ100 : List Cond := u_ws RJ10 TJ10 0
theorem nmJ10 : ∀ a, a < 0 → ∀ b, b < 0 → a ≠ b → (TJ10 a).2.1 ≠ (TJ10 b).2.1 := by decide +kernel
theorem tyJ10_ok : ∀ k, k < 0 → parseFieldDescriptor (TJ10 k).2.2.1 = some (tyJ10 k) := by decide +kernel
def RJxfd54e : String := "java/lang/constant/Constable"
def TJxfd54e : u_T := fun k => match k with
  | _ => ("", "", "", false)
def tyJxfd54e : Nat → FieldType := fun k => match k with
  | _ => .int
abbrev wsJxfd54e0 : List Cond := u_ws RJxfd54e TJxfd54e 0
theorem nmJxfd54e : ∀ a, a < 0 → ∀ b, b < 0 → a ≠ b → (TJxfd54e a).2.1 ≠ (TJxfd54e b).2.1 := by decide +kernel
theorem tyJxfd54e_ok : ∀ k, k < 0 → parseFieldDescriptor (TJxfd54e k).2.2.1 = some (tyJxfd54e k) := by decide +kernel
def RJx3cf43 : String := "java/lang/constant/ConstantDesc"
def TJx3cf43 : u_T := fun k => match k with
  | _ => ("", "", "", false)
def tyJx3cf43 : Nat → FieldType := fun k => match k with
  | _ => .int
abbrev wsJx3cf430 : List Cond := u_ws RJx3cf43 TJx3cf43 0
theorem nmJx3cf43 : ∀ a, a < 0 → ∀ b, b < 0 → a ≠ b → (TJx3cf43 a).2.1 ≠ (TJx3cf43 b).2.1 := by decide +kernel
theorem tyJx3cf43_ok : ∀ k, k < 0 → parseFieldDescriptor (TJx3cf43 k).2.2.1 = some (tyJx3cf43 k) := by decide +kernel
def RJxa1e45 : String := "java/util/AbstractCollection"
def TJxa1e45 : u_T := fun k => match k with
  | _ => ("", "", "", false)
def tyJxa1e45 : Nat → FieldType := fun k => match k with
  | _ => .int
abbrev wsJxa1e450 : List Cond := u_ws RJxa1e45 TJxa1e45 0
theorem nmJxa1e45 : ∀ a, a < 0 → ∀ b, b < 0 → a ≠ b → (TJxa1e45 a).2.1 ≠ (TJxa1e45 b).2.1 := by decide +kernel
theorem tyJxa1e45_ok : ∀ k, k < 0 → parseFieldDescriptor (TJxa1e45 k).2.2.1 = some (tyJxa1e45 k) := by decide +kernel
abbrev cJxa1e45_init_da8c8 : ByteArray := prog_36_method_1_code
def yJxa1e45_init_da8c8 : MethodName := ⟨RJxa1e45, "<init>", "()V"⟩
def RJxc12de : String := "java/util/AbstractList"
def TJxc12de : u_T := fun k => match k with
  | _ => ("", "", "", false)
def tyJxc12de : Nat → FieldType := fun k => match k with
  | _ => .int
abbrev wsJxc12de0 : List Cond := u_ws RJxc12de TJxc12de 0
theorem nmJxc12de : ∀ a, a < 0 → ∀ b, b < 0 → a ≠ b → (TJxc12de a).2.1 ≠ (TJxc12de b).2.1 := by decide +kernel
theorem tyJxc12de_ok : ∀ k, k < 0 → parseFieldDescriptor (TJxc12de k).2.2.1 = some (tyJxc12de k) := by decide +kernel
abbrev cJxc12de_init_da8c8 : ByteArray := prog_37_method_1_code
def yJxc12de_init_da8c8 : MethodName := ⟨RJxc12de, "<init>", "()V"⟩
def RJx4a65c : String := "java/util/ArrayList"
def TJx4a65c : u_T := fun k => match k with
  | 0 => ("java/util/AbstractList", "modCount", "I", false)
  | 1 => ("java/util/ArrayList", "elementData", "[Ljava/lang/Object;", false)
  | _ => ("java/util/ArrayList", "size", "I", false)
def tyJx4a65c : Nat → FieldType := fun k => match k with
  | 0 => .int
  | 1 => .array (.object "java/lang/Object")
  | _ => .int
abbrev wsJx4a65c0 : List Cond := u_ws RJx4a65c TJx4a65c 3
theorem nmJx4a65c : ∀ a, a < 3 → ∀ b, b < 3 → a ≠ b → (TJx4a65c a).2.1 ≠ (TJx4a65c b).2.1 := by decide +kernel
theorem tyJx4a65c_ok : ∀ k, k < 3 → parseFieldDescriptor (TJx4a65c k).2.2.1 = some (tyJx4a65c k) := by decide +kernel
abbrev cJx4a65c_init_da8c8 : ByteArray := prog_38_method_2_code
def yJx4a65c_init_da8c8 : MethodName := ⟨RJx4a65c, "<init>", "()V"⟩
abbrev cJx4a65c_grow_92f84 : ByteArray := prog_38_method_6_code
def yJx4a65c_grow_92f84 : MethodName := ⟨RJx4a65c, "grow", "(I)[Ljava/lang/Object;"⟩
abbrev cJx4a65c_grow_d5877 : ByteArray := prog_38_method_7_code
def yJx4a65c_grow_d5877 : MethodName := ⟨RJx4a65c, "grow", "()[Ljava/lang/Object;"⟩
abbrev cJx4a65c_size_8abf5 : ByteArray := prog_38_method_8_code
def yJx4a65c_size_8abf5 : MethodName := ⟨RJx4a65c, "size", "()I"⟩
abbrev cJx4a65c_isEmpty_aae02 : ByteArray := prog_38_method_9_code
def yJx4a65c_isEmpty_aae02 : MethodName := ⟨RJx4a65c, "isEmpty", "()Z"⟩
abbrev cJx4a65c_elementData_915e3 : ByteArray := prog_38_method_18_code
def yJx4a65c_elementData_915e3 : MethodName := ⟨RJx4a65c, "elementData", "(I)Ljava/lang/Object;"⟩
abbrev cJx4a65c_get_915e3 : ByteArray := prog_38_method_20_code
def yJx4a65c_get_915e3 : MethodName := ⟨RJx4a65c, "get", "(I)Ljava/lang/Object;"⟩
abbrev cJx4a65c_add_72be8 : ByteArray := prog_38_method_24_code
def yJx4a65c_add_72be8 : MethodName := ⟨RJx4a65c, "add", "(Ljava/lang/Object;[Ljava/lang/Object;I)V"⟩
abbrev cJx4a65c_add_9ea2d : ByteArray := prog_38_method_25_code
def yJx4a65c_add_9ea2d : MethodName := ⟨RJx4a65c, "add", "(Ljava/lang/Object;)Z"⟩
abbrev cJx4a65c_add_7a177 : ByteArray := prog_38_method_26_code
def yJx4a65c_add_7a177 : MethodName := ⟨RJx4a65c, "add", "(ILjava/lang/Object;)V"⟩
abbrev cJx4a65c_remove_915e3 : ByteArray := prog_38_method_29_code
def yJx4a65c_remove_915e3 : MethodName := ⟨RJx4a65c, "remove", "(I)Ljava/lang/Object;"⟩
abbrev cJx4a65c_fastRemove_b59b0 : ByteArray := prog_38_method_39_code
def yJx4a65c_fastRemove_b59b0 : MethodName := ⟨RJx4a65c, "fastRemove", "([Ljava/lang/Object;I)V"⟩
abbrev cJx4a65c_rangeCheckForAdd_d00df : ByteArray := prog_38_method_45_code
def yJx4a65c_rangeCheckForAdd_d00df : MethodName := ⟨RJx4a65c, "rangeCheckForAdd", "(I)V"⟩
abbrev cJx4a65c_outOfBoundsMsg_b52d3 : ByteArray := prog_38_method_46_code
def yJx4a65c_outOfBoundsMsg_b52d3 : MethodName := ⟨RJx4a65c, "outOfBoundsMsg", "(I)Ljava/lang/String;"⟩
def RJ7 : String := "java/util/Arrays"
def TJ7 : u_T := fun k => match k with
  | _ => ("", "", "", false)
def tyJ7 : Nat → FieldType := fun k => match k with
  | _ => .int
abbrev wsJ70 : List Cond := u_ws RJ7 TJ7 0
theorem nmJ7 : ∀ a, a < 0 → ∀ b, b < 0 → a ≠ b → (TJ7 a).2.1 ≠ (TJ7 b).2.1 := by decide +kernel
theorem tyJ7_ok : ∀ k, k < 0 → parseFieldDescriptor (TJ7 k).2.2.1 = some (tyJ7 k) := by decide +kernel
abbrev cJ7_fill_53178 : ByteArray := prog_39_method_103_code
def yJ7_fill_53178 : MethodName := ⟨RJ7, "fill", "([II)V"⟩
abbrev cJ7_copyOf_1904c : ByteArray := prog_39_method_119_code
def yJ7_copyOf_1904c : MethodName := ⟨RJ7, "copyOf", "([Ljava/lang/Object;I)[Ljava/lang/Object;"⟩
abbrev cJ7_copyOf_6403c : ByteArray := prog_39_method_120_code
def yJ7_copyOf_6403c : MethodName := ⟨RJ7, "copyOf", "([Ljava/lang/Object;ILjava/lang/Class;)[Ljava/lang/Object;"⟩
abbrev cJ7_copyOf_9075b : ByteArray := prog_39_method_121_code
def yJ7_copyOf_9075b : MethodName := ⟨RJ7, "copyOf", "([BI)[B"⟩
abbrev cJ7_checkLength_df160 : ByteArray := prog_39_method_131_code
def yJ7_checkLength_df160 : MethodName := ⟨RJ7, "checkLength", "(II)V"⟩
abbrev cJ7_copyOfRange_39247 : ByteArray := prog_39_method_132_code
def yJ7_copyOfRange_39247 : MethodName := ⟨RJ7, "copyOfRange", "([BII)[B"⟩
abbrev cJ7_copyOfRangeByte_39247 : ByteArray := prog_39_method_133_code
def yJ7_copyOfRangeByte_39247 : MethodName := ⟨RJ7, "copyOfRangeByte", "([BII)[B"⟩
def RJx5ef63 : String := "java/util/Collection"
def TJx5ef63 : u_T := fun k => match k with
  | _ => ("", "", "", false)
def tyJx5ef63 : Nat → FieldType := fun k => match k with
  | _ => .int
abbrev wsJx5ef630 : List Cond := u_ws RJx5ef63 TJx5ef63 0
theorem nmJx5ef63 : ∀ a, a < 0 → ∀ b, b < 0 → a ≠ b → (TJx5ef63 a).2.1 ≠ (TJx5ef63 b).2.1 := by decide +kernel
theorem tyJx5ef63_ok : ∀ k, k < 0 → parseFieldDescriptor (TJx5ef63 k).2.2.1 = some (tyJx5ef63 k) := by decide +kernel
def RJxbd725 : String := "java/util/List"
def TJxbd725 : u_T := fun k => match k with
  | _ => ("", "", "", false)
def tyJxbd725 : Nat → FieldType := fun k => match k with
  | _ => .int
abbrev wsJxbd7250 : List Cond := u_ws RJxbd725 TJxbd725 0
theorem nmJxbd725 : ∀ a, a < 0 → ∀ b, b < 0 → a ≠ b → (TJxbd725 a).2.1 ≠ (TJxbd725 b).2.1 := by decide +kernel
theorem tyJxbd725_ok : ∀ k, k < 0 → parseFieldDescriptor (TJxbd725 k).2.2.1 = some (tyJxbd725 k) := by decide +kernel
def RJ15 : String := "java/util/Objects"
def TJ15 : u_T := fun k => match k with
  | _ => ("", "", "", false)
def tyJ15 : Nat → FieldType := fun k => match k with
  | _ => .int
abbrev wsJ150 : List Cond := u_ws RJ15 TJ15 0
theorem nmJ15 : ∀ a, a < 0 → ∀ b, b < 0 → a ≠ b → (TJ15 a).2.1 ≠ (TJ15 b).2.1 := by decide +kernel
theorem tyJ15_ok : ∀ k, k < 0 → parseFieldDescriptor (TJ15 k).2.2.1 = some (tyJ15 k) := by decide +kernel
abbrev cJ15_checkIndex_7cf53 : ByteArray := prog_42_method_17_code
def yJ15_checkIndex_7cf53 : MethodName := ⟨RJ15, "checkIndex", "(II)I"⟩
def RJxf0a74 : String := "java/util/RandomAccess"
def TJxf0a74 : u_T := fun k => match k with
  | _ => ("", "", "", false)
def tyJxf0a74 : Nat → FieldType := fun k => match k with
  | _ => .int
abbrev wsJxf0a740 : List Cond := u_ws RJxf0a74 TJxf0a74 0
theorem nmJxf0a74 : ∀ a, a < 0 → ∀ b, b < 0 → a ≠ b → (TJxf0a74 a).2.1 ≠ (TJxf0a74 b).2.1 := by decide +kernel
theorem tyJxf0a74_ok : ∀ k, k < 0 → parseFieldDescriptor (TJxf0a74 k).2.2.1 = some (tyJxf0a74 k) := by decide +kernel
def RJxa66e6 : String := "java/util/SequencedCollection"
def TJxa66e6 : u_T := fun k => match k with
  | _ => ("", "", "", false)
def tyJxa66e6 : Nat → FieldType := fun k => match k with
  | _ => .int
abbrev wsJxa66e60 : List Cond := u_ws RJxa66e6 TJxa66e6 0
theorem nmJxa66e6 : ∀ a, a < 0 → ∀ b, b < 0 → a ≠ b → (TJxa66e6 a).2.1 ≠ (TJxa66e6 b).2.1 := by decide +kernel
theorem tyJxa66e6_ok : ∀ k, k < 0 → parseFieldDescriptor (TJxa66e6 k).2.2.1 = some (tyJxa66e6 k) := by decide +kernel
def RJ8 : String := "jdk/internal/util/ArraysSupport"
def TJ8 : u_T := fun k => match k with
  | _ => ("", "", "", false)
def tyJ8 : Nat → FieldType := fun k => match k with
  | _ => .int
abbrev wsJ80 : List Cond := u_ws RJ8 TJ8 0
theorem nmJ8 : ∀ a, a < 0 → ∀ b, b < 0 → a ≠ b → (TJ8 a).2.1 ≠ (TJ8 b).2.1 := by decide +kernel
theorem tyJ8_ok : ∀ k, k < 0 → parseFieldDescriptor (TJ8 k).2.2.1 = some (tyJ8 k) := by decide +kernel
abbrev cJ8_newLength_cabcc : ByteArray := prog_45_method_27_code
def yJ8_newLength_cabcc : MethodName := ⟨RJ8, "newLength", "(III)I"⟩
abbrev cJ8_hugeLength_7cf53 : ByteArray := prog_45_method_28_code
def yJ8_hugeLength_7cf53 : MethodName := ⟨RJ8, "hugeLength", "(II)I"⟩
def RJ3 : String := "jdk/internal/util/Preconditions"
def TJ3 : u_T := fun k => match k with
  | _ => ("", "", "", false)
def tyJ3 : Nat → FieldType := fun k => match k with
  | _ => .int
abbrev wsJ30 : List Cond := u_ws RJ3 TJ3 0
theorem nmJ3 : ∀ a, a < 0 → ∀ b, b < 0 → a ≠ b → (TJ3 a).2.1 ≠ (TJ3 b).2.1 := by decide +kernel
theorem tyJ3_ok : ∀ k, k < 0 → parseFieldDescriptor (TJ3 k).2.2.1 = some (tyJ3 k) := by decide +kernel
abbrev cJ3_checkIndex_8e157 : ByteArray := prog_46_method_11_code
def yJ3_checkIndex_8e157 : MethodName := ⟨RJ3, "checkIndex", "(IILjava/util/function/BiFunction;)I"⟩
abbrev cJ3_checkFromToIndex_8c36e : ByteArray := prog_46_method_12_code
def yJ3_checkFromToIndex_8c36e : MethodName := ⟨RJ3, "checkFromToIndex", "(IIILjava/util/function/BiFunction;)I"⟩
abbrev cJ3_checkFromIndexSize_8c36e : ByteArray := prog_46_method_13_code
def yJ3_checkFromIndexSize_8c36e : MethodName := ⟨RJ3, "checkFromIndexSize", "(IIILjava/util/function/BiFunction;)I"⟩
def RL : String := "TonguerootFamilyLaw"
abbrev cL_setSound : ByteArray := method_3_code
def yL_setSound : MethodName := ⟨RL, "setSound", "(LTonguerootFamily;II[J)I"⟩
abbrev cL_word : ByteArray := method_4_code
def yL_word : MethodName := ⟨RL, "word", "(LTonguerootFamily;I[J)I"⟩
abbrev cL_spell : ByteArray := method_5_code
def yL_spell : MethodName := ⟨RL, "spell", "(LTonguerootFamily;I[J)I"⟩
abbrev cL_language : ByteArray := method_6_code
def yL_language : MethodName := ⟨RL, "language", "(LTonguerootFamily;I[J)I"⟩
abbrev cL_law : ByteArray := method_7_code
def yL_law : MethodName := ⟨RL, "law", "(LTonguerootFamily;IIIII[J)I"⟩
abbrev cL_unlaw : ByteArray := method_8_code
def yL_unlaw : MethodName := ⟨RL, "unlaw", "(LTonguerootFamily;I[J)I"⟩
abbrev cL_loan : ByteArray := method_9_code
def yL_loan : MethodName := ⟨RL, "loan", "(LTonguerootFamily;IIII[J)I"⟩
abbrev cL_laws : ByteArray := method_10_code
def yL_laws : MethodName := ⟨RL, "laws", "(LTonguerootFamily;I[J)I"⟩
abbrev cL_common : ByteArray := method_11_code
def yL_common : MethodName := ⟨RL, "common", "(LTonguerootFamily;II[J)I"⟩
abbrev cL_length : ByteArray := method_12_code
def yL_length : MethodName := ⟨RL, "length", "(LTonguerootFamily;II[J)I"⟩
abbrev cL_soundAt : ByteArray := method_13_code
def yL_soundAt : MethodName := ⟨RL, "soundAt", "(LTonguerootFamily;III[J)I"⟩
abbrev cL_origin : ByteArray := method_14_code
def yL_origin : MethodName := ⟨RL, "origin", "(LTonguerootFamily;II[J)I"⟩
abbrev cL_changedBy : ByteArray := method_15_code
def yL_changedBy : MethodName := ⟨RL, "changedBy", "(LTonguerootFamily;II[J)I"⟩
abbrev cL_wealth : ByteArray := method_16_code
def yL_wealth : MethodName := ⟨RL, "wealth", "(LTonguerootFamily;I[J)I"⟩
abbrev cL_alike : ByteArray := method_17_code
def yL_alike : MethodName := ⟨RL, "alike", "(LTonguerootFamily;I[J)I"⟩
abbrev cL_soundsOf : ByteArray := method_18_code
def yL_soundsOf : MethodName := ⟨RL, "soundsOf", "(LTonguerootFamily;I[J)I"⟩
abbrev cL_cost : ByteArray := method_19_code
def yL_cost : MethodName := ⟨RL, "cost", "(LTonguerootFamily;III[J)I"⟩
abbrev cL_columns : ByteArray := method_20_code
def yL_columns : MethodName := ⟨RL, "columns", "(LTonguerootFamily;III[J)I"⟩
abbrev cL_columnAt : ByteArray := method_21_code
def yL_columnAt : MethodName := ⟨RL, "columnAt", "(LTonguerootFamily;IIII[J)I"⟩
abbrev cL_answers : ByteArray := method_22_code
def yL_answers : MethodName := ⟨RL, "answers", "(LTonguerootFamily;IIII[J)I"⟩
abbrev cL_mainAnswer : ByteArray := method_23_code
def yL_mainAnswer : MethodName := ⟨RL, "mainAnswer", "(LTonguerootFamily;III[J)I"⟩
abbrev cL_far : ByteArray := method_24_code
def yL_far : MethodName := ⟨RL, "far", "(LTonguerootFamily;II[D)I"⟩
abbrev cL_nearest : ByteArray := method_25_code
def yL_nearest : MethodName := ⟨RL, "nearest", "(LTonguerootFamily;I[J)I"⟩
abbrev cL_recalled : ByteArray := method_26_code
def yL_recalled : MethodName := ⟨RL, "recalled", "(LTonguerootFamily;II[J)I"⟩
abbrev cL_recalledAt : ByteArray := method_27_code
def yL_recalledAt : MethodName := ⟨RL, "recalledAt", "(LTonguerootFamily;III[J)I"⟩
abbrev cL_recalledWell : ByteArray := method_28_code
def yL_recalledWell : MethodName := ⟨RL, "recalledWell", "(LTonguerootFamily;I[J)I"⟩
abbrev cL_swapped : ByteArray := method_29_code
def yL_swapped : MethodName := ⟨RL, "swapped", "(LTonguerootFamily;II[J)I"⟩
abbrev cL_without : ByteArray := method_30_code
def yL_without : MethodName := ⟨RL, "without", "(LTonguerootFamily;II[J)I"⟩
abbrev cL_withoutLoan : ByteArray := method_31_code
def yL_withoutLoan : MethodName := ⟨RL, "withoutLoan", "(LTonguerootFamily;I[J)I"⟩
abbrev cL_looksLent : ByteArray := method_32_code
def yL_looksLent : MethodName := ⟨RL, "looksLent", "(LTonguerootFamily;II[J)I"⟩
abbrev cL_law_ : ByteArray := code
def yL_law_ : MethodName := ⟨RL, "law", "([I)Z"⟩
