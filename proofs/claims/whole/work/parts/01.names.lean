def RX0 : String := "LostParcels$Address"
def TX0 : u_T := fun k => match k with
  | 0 => ("LostParcels$Address", "letters", "I", true)
  | 1 => ("LostParcels$Address", "length", "I", true)
  | _ => ("LostParcels$Address", "post", "I", false)
def tyX0 : Nat → FieldType := fun k => match k with
  | 0 => .int
  | 1 => .int
  | _ => .int
abbrev wsX00 : List Cond := u_ws RX0 TX0 3
theorem nmX0 : ∀ a, a < 3 → ∀ b, b < 3 → a ≠ b → (TX0 a).2.1 ≠ (TX0 b).2.1 := by decide +kernel
theorem tyX0_ok : ∀ k, k < 3 → parseFieldDescriptor (TX0 k).2.2.1 = some (tyX0 k) := by decide +kernel
abbrev cX0_init : ByteArray := prog_2_method_1_code
def yX0_init : MethodName := ⟨RX0, "<init>", "(III)V"⟩
abbrev cX0_takes : ByteArray := prog_2_method_2_code
def yX0_takes : MethodName := ⟨RX0, "takes", "(III)Z"⟩
abbrev cX0_agrees : ByteArray := prog_2_method_3_code
def yX0_agrees : MethodName := ⟨RX0, "agrees", "(III)Z"⟩
def RX1 : String := "LostParcels$Change"
def TX1 : u_T := fun k => match k with
  | 0 => ("LostParcels$Change", "day", "I", true)
  | 1 => ("LostParcels$Change", "earlier", "LLostParcels$Change;", true)
  | _ => ("LostParcels$Change", "state", "I", false)
def tyX1 : Nat → FieldType := fun k => match k with
  | 0 => .int
  | 1 => .object "LostParcels$Change"
  | _ => .int
abbrev wsX10 : List Cond := u_ws RX1 TX1 3
theorem nmX1 : ∀ a, a < 3 → ∀ b, b < 3 → a ≠ b → (TX1 a).2.1 ≠ (TX1 b).2.1 := by decide +kernel
theorem tyX1_ok : ∀ k, k < 3 → parseFieldDescriptor (TX1 k).2.2.1 = some (tyX1 k) := by decide +kernel
abbrev cX1_init : ByteArray := prog_3_method_1_code
def yX1_init : MethodName := ⟨RX1, "<init>", "(IILLostParcels$Change;)V"⟩
def RX2 : String := "LostParcels$Gathering"
def TX2 : u_T := fun k => match k with
  | _ => ("LostParcels$Gathering", "weightAhead", "[I", true)
def tyX2 : Nat → FieldType := fun k => match k with
  | _ => .array .int
abbrev wsX20 : List Cond := u_ws RX2 TX2 1
theorem nmX2 : ∀ a, a < 1 → ∀ b, b < 1 → a ≠ b → (TX2 a).2.1 ≠ (TX2 b).2.1 := by decide +kernel
theorem tyX2_ok : ∀ k, k < 1 → parseFieldDescriptor (TX2 k).2.2.1 = some (tyX2 k) := by decide +kernel
abbrev cX2_init : ByteArray := prog_4_method_1_code
def yX2_init : MethodName := ⟨RX2, "<init>", "()V"⟩
abbrev cX2_nearest : ByteArray := prog_4_method_2_code
def yX2_nearest : MethodName := ⟨RX2, "nearest", "(Ljava/util/ArrayList;II)I"⟩
def RX3 : String := "LostParcels$Matching"
def TX3 : u_T := fun k => match k with
  | 0 => ("LostParcels$Matching", "bestOf", "[J", true)
  | 1 => ("LostParcels$Matching", "weights", "[J", true)
  | _ => ("LostParcels$Matching", "seekers", "I", false)
def tyX3 : Nat → FieldType := fun k => match k with
  | 0 => .array .long
  | 1 => .array .long
  | _ => .int
abbrev wsX30 : List Cond := u_ws RX3 TX3 3
theorem nmX3 : ∀ a, a < 3 → ∀ b, b < 3 → a ≠ b → (TX3 a).2.1 ≠ (TX3 b).2.1 := by decide +kernel
theorem tyX3_ok : ∀ k, k < 3 → parseFieldDescriptor (TX3 k).2.2.1 = some (tyX3 k) := by decide +kernel
abbrev cX3_init : ByteArray := prog_5_method_1_code
def yX3_init : MethodName := ⟨RX3, "<init>", "()V"⟩
abbrev cX3_likenessesIn : ByteArray := prog_5_method_2_code
def yX3_likenessesIn : MethodName := ⟨RX3, "likenessesIn", "(J)I"⟩
abbrev cX3_thingIn : ByteArray := prog_5_method_3_code
def yX3_thingIn : MethodName := ⟨RX3, "thingIn", "(JI)I"⟩
abbrev cX3_begin : ByteArray := prog_5_method_4_code
def yX3_begin : MethodName := ⟨RX3, "begin", "(I)V"⟩
abbrev cX3_weigh : ByteArray := prog_5_method_5_code
def yX3_weigh : MethodName := ⟨RX3, "weigh", "(III)V"⟩
abbrev cX3_offer : ByteArray := prog_5_method_6_code
def yX3_offer : MethodName := ⟨RX3, "offer", "()V"⟩
abbrev cX3_best : ByteArray := prog_5_method_7_code
def yX3_best : MethodName := ⟨RX3, "best", "()J"⟩
def RX4 : String := "LostParcels$Parting"
def TX4 : u_T := fun k => match k with
  | 0 => ("LostParcels$Parting", "worthOf", "[I", true)
  | 1 => ("LostParcels$Parting", "fewestOf", "[I", true)
  | 2 => ("LostParcels$Parting", "low", "I", false)
  | 3 => ("LostParcels$Parting", "high", "I", false)
  | _ => ("LostParcels$Parting", "all", "I", false)
def tyX4 : Nat → FieldType := fun k => match k with
  | 0 => .array .int
  | 1 => .array .int
  | 2 => .int
  | 3 => .int
  | _ => .int
abbrev wsX40 : List Cond := u_ws RX4 TX4 5
theorem nmX4 : ∀ a, a < 5 → ∀ b, b < 5 → a ≠ b → (TX4 a).2.1 ≠ (TX4 b).2.1 := by decide +kernel
theorem tyX4_ok : ∀ k, k < 5 → parseFieldDescriptor (TX4 k).2.2.1 = some (tyX4 k) := by decide +kernel
abbrev cX4_init : ByteArray := prog_6_method_1_code
def yX4_init : MethodName := ⟨RX4, "<init>", "()V"⟩
abbrev cX4_part : ByteArray := prog_6_method_2_code
def yX4_part : MethodName := ⟨RX4, "part", "(Ljava/util/ArrayList;II)V"⟩
abbrev cX4_fewestLots : ByteArray := prog_6_method_3_code
def yX4_fewestLots : MethodName := ⟨RX4, "fewestLots", "()I"⟩
abbrev cX4_lotAt : ByteArray := prog_6_method_4_code
def yX4_lotAt : MethodName := ⟨RX4, "lotAt", "(I)I"⟩
abbrev cX4_bestLot : ByteArray := prog_6_method_5_code
def yX4_bestLot : MethodName := ⟨RX4, "bestLot", "(I)I"⟩
def RX5 : String := "LostParcels$Purse"
def TX5 : u_T := fun k => match k with
  | 0 => ("LostParcels$Thing", "kind", "I", true)
  | 1 => ("LostParcels$Thing", "foundOn", "I", true)
  | 2 => ("LostParcels$Thing", "weight", "I", true)
  | 3 => ("LostParcels$Thing", "worth", "I", true)
  | 4 => ("LostParcels$Thing", "secret", "I", true)
  | 5 => ("LostParcels$Thing", "traits", "[I", true)
  | 6 => ("LostParcels$Thing", "state", "I", false)
  | 7 => ("LostParcels$Thing", "holder", "I", false)
  | 8 => ("LostParcels$Thing", "leftOn", "I", false)
  | 9 => ("LostParcels$Thing", "share", "I", false)
  | 10 => ("LostParcels$Thing", "paid", "Z", false)
  | 11 => ("LostParcels$Thing", "last", "LLostParcels$Change;", false)
  | _ => ("LostParcels$Purse", "counts", "[I", true)
def tyX5 : Nat → FieldType := fun k => match k with
  | 0 => .int
  | 1 => .int
  | 2 => .int
  | 3 => .int
  | 4 => .int
  | 5 => .array .int
  | 6 => .int
  | 7 => .int
  | 8 => .int
  | 9 => .int
  | 10 => .boolean
  | 11 => .object "LostParcels$Change"
  | _ => .array .int
abbrev wsX50 : List Cond := u_ws RX5 TX5 13
theorem nmX5 : ∀ a, a < 13 → ∀ b, b < 13 → a ≠ b → (TX5 a).2.1 ≠ (TX5 b).2.1 := by decide +kernel
theorem tyX5_ok : ∀ k, k < 13 → parseFieldDescriptor (TX5 k).2.2.1 = some (tyX5 k) := by decide +kernel
abbrev cX5_init : ByteArray := prog_7_method_1_code
def yX5_init : MethodName := ⟨RX5, "<init>", "(IIII)V"⟩
abbrev cX5_handsThatCounted : ByteArray := prog_7_method_2_code
def yX5_handsThatCounted : MethodName := ⟨RX5, "handsThatCounted", "()I"⟩
abbrev cX5_agreedCount : ByteArray := prog_7_method_3_code
def yX5_agreedCount : MethodName := ⟨RX5, "agreedCount", "()I"⟩
abbrev cX5_handsWith : ByteArray := prog_7_method_4_code
def yX5_handsWith : MethodName := ⟨RX5, "handsWith", "(I)I"⟩
def RX6 : String := "LostParcels$Records"
def TX6 : u_T := fun k => match k with
  | 0 => ("LostParcels$Records", "ofMachine", "[I", true)
  | 1 => ("LostParcels$Records", "tornOfMachine", "[I", true)
  | 2 => ("LostParcels$Records", "all", "I", false)
  | _ => ("LostParcels$Records", "tornInAll", "I", false)
def tyX6 : Nat → FieldType := fun k => match k with
  | 0 => .array .int
  | 1 => .array .int
  | 2 => .int
  | _ => .int
abbrev wsX60 : List Cond := u_ws RX6 TX6 4
theorem nmX6 : ∀ a, a < 4 → ∀ b, b < 4 → a ≠ b → (TX6 a).2.1 ≠ (TX6 b).2.1 := by decide +kernel
theorem tyX6_ok : ∀ k, k < 4 → parseFieldDescriptor (TX6 k).2.2.1 = some (tyX6 k) := by decide +kernel
abbrev cX6_init : ByteArray := prog_8_method_1_code
def yX6_init : MethodName := ⟨RX6, "<init>", "()V"⟩
abbrev cX6_add : ByteArray := prog_8_method_2_code
def yX6_add : MethodName := ⟨RX6, "add", "(II)V"⟩
abbrev cX6_isBeyondChance : ByteArray := prog_8_method_3_code
def yX6_isBeyondChance : MethodName := ⟨RX6, "isBeyondChance", "(I)Z"⟩
abbrev cX6_waysToChoose : ByteArray := prog_8_method_4_code
def yX6_waysToChoose : MethodName := ⟨RX6, "waysToChoose", "(II)J"⟩
def RX7 : String := "LostParcels$Seeker"
def TX7 : u_T := fun k => match k with
  | 0 => ("LostParcels$Seeker", "lostOn", "I", true)
  | 1 => ("LostParcels$Seeker", "words", "[I", true)
  | 2 => ("LostParcels$Seeker", "lightest", "I", false)
  | 3 => ("LostParcels$Seeker", "heaviest", "I", false)
  | _ => ("LostParcels$Seeker", "falses", "I", false)
def tyX7 : Nat → FieldType := fun k => match k with
  | 0 => .int
  | 1 => .array .int
  | 2 => .int
  | 3 => .int
  | _ => .int
abbrev wsX70 : List Cond := u_ws RX7 TX7 5
theorem nmX7 : ∀ a, a < 5 → ∀ b, b < 5 → a ≠ b → (TX7 a).2.1 ≠ (TX7 b).2.1 := by decide +kernel
theorem tyX7_ok : ∀ k, k < 5 → parseFieldDescriptor (TX7 k).2.2.1 = some (tyX7 k) := by decide +kernel
abbrev cX7_init : ByteArray := prog_9_method_1_code
def yX7_init : MethodName := ⟨RX7, "<init>", "(I)V"⟩
abbrev cX7_isBarred : ByteArray := prog_9_method_2_code
def yX7_isBarred : MethodName := ⟨RX7, "isBarred", "()Z"⟩
def RX8 : String := "LostParcels$Thing"
def TX8 : u_T := fun k => match k with
  | 0 => ("LostParcels$Thing", "kind", "I", true)
  | 1 => ("LostParcels$Thing", "foundOn", "I", true)
  | 2 => ("LostParcels$Thing", "weight", "I", true)
  | 3 => ("LostParcels$Thing", "worth", "I", true)
  | 4 => ("LostParcels$Thing", "secret", "I", true)
  | 5 => ("LostParcels$Thing", "traits", "[I", true)
  | 6 => ("LostParcels$Thing", "state", "I", false)
  | 7 => ("LostParcels$Thing", "holder", "I", false)
  | 8 => ("LostParcels$Thing", "leftOn", "I", false)
  | 9 => ("LostParcels$Thing", "share", "I", false)
  | 10 => ("LostParcels$Thing", "paid", "Z", false)
  | _ => ("LostParcels$Thing", "last", "LLostParcels$Change;", false)
def tyX8 : Nat → FieldType := fun k => match k with
  | 0 => .int
  | 1 => .int
  | 2 => .int
  | 3 => .int
  | 4 => .int
  | 5 => .array .int
  | 6 => .int
  | 7 => .int
  | 8 => .int
  | 9 => .int
  | 10 => .boolean
  | _ => .object "LostParcels$Change"
abbrev wsX80 : List Cond := u_ws RX8 TX8 12
theorem nmX8 : ∀ a, a < 12 → ∀ b, b < 12 → a ≠ b → (TX8 a).2.1 ≠ (TX8 b).2.1 := by decide +kernel
theorem tyX8_ok : ∀ k, k < 12 → parseFieldDescriptor (TX8 k).2.2.1 = some (tyX8 k) := by decide +kernel
abbrev cX8_init : ByteArray := prog_10_method_1_code
def yX8_init : MethodName := ⟨RX8, "<init>", "(IIIII)V"⟩
abbrev cX8_become : ByteArray := prog_10_method_2_code
def yX8_become : MethodName := ⟨RX8, "become", "(II)V"⟩
abbrev cX8_stateBy : ByteArray := prog_10_method_3_code
def yX8_stateBy : MethodName := ⟨RX8, "stateBy", "(I)I"⟩
def RX9 : String := "LostParcels"
def TX9 : u_T := fun k => match k with
  | 0 => ("LostParcels", "things", "Ljava/util/ArrayList;", true)
  | 1 => ("LostParcels", "seekers", "Ljava/util/ArrayList;", true)
  | 2 => ("LostParcels", "addresses", "Ljava/util/ArrayList;", true)
  | 3 => ("LostParcels", "traitPoints", "[I", true)
  | 4 => ("LostParcels", "monthsKept", "[I", true)
  | 5 => ("LostParcels", "findingsTold", "[I", true)
  | 6 => ("LostParcels", "waiting", "[I", true)
  | 7 => ("LostParcels", "chosen", "Ljava/util/ArrayList;", true)
  | 8 => ("LostParcels", "matching", "LLostParcels$Matching;", true)
  | 9 => ("LostParcels", "parting", "LLostParcels$Parting;", true)
  | 10 => ("LostParcels", "gathering", "LLostParcels$Gathering;", true)
  | 11 => ("LostParcels", "records", "LLostParcels$Records;", true)
  | 12 => ("LostParcels", "waitingCount", "I", false)
  | 13 => ("LostParcels", "today", "I", false)
  | 14 => ("LostParcels", "spoilDays", "I", false)
  | _ => ("LostParcels", "paidInAll", "I", false)
def tyX9 : Nat → FieldType := fun k => match k with
  | 0 => .object "java/util/ArrayList"
  | 1 => .object "java/util/ArrayList"
  | 2 => .object "java/util/ArrayList"
  | 3 => .array .int
  | 4 => .array .int
  | 5 => .array .int
  | 6 => .array .int
  | 7 => .object "java/util/ArrayList"
  | 8 => .object "LostParcels$Matching"
  | 9 => .object "LostParcels$Parting"
  | 10 => .object "LostParcels$Gathering"
  | 11 => .object "LostParcels$Records"
  | 12 => .int
  | 13 => .int
  | 14 => .int
  | _ => .int
abbrev wsX90 : List Cond := u_ws RX9 TX9 16
theorem nmX9 : ∀ a, a < 16 → ∀ b, b < 16 → a ≠ b → (TX9 a).2.1 ≠ (TX9 b).2.1 := by decide +kernel
theorem tyX9_ok : ∀ k, k < 16 → parseFieldDescriptor (TX9 k).2.2.1 = some (tyX9 k) := by decide +kernel
abbrev cX9_init : ByteArray := prog_1_method_1_code
def yX9_init : MethodName := ⟨RX9, "<init>", "()V"⟩
abbrev cX9_thing : ByteArray := prog_1_method_2_code
def yX9_thing : MethodName := ⟨RX9, "thing", "(IIIII)I"⟩
abbrev cX9_as : ByteArray := prog_1_method_3_code
def yX9_as : MethodName := ⟨RX9, "as", "(II)I"⟩
abbrev cX9_trait : ByteArray := prog_1_method_4_code
def yX9_trait : MethodName := ⟨RX9, "trait", "(III)I"⟩
abbrev cX9_about : ByteArray := prog_1_method_5_code
def yX9_about : MethodName := ⟨RX9, "about", "(II)I"⟩
abbrev cX9_day : ByteArray := prog_1_method_6_code
def yX9_day : MethodName := ⟨RX9, "day", "(I)I"⟩
abbrev cX9_spoil : ByteArray := prog_1_method_7_code
def yX9_spoil : MethodName := ⟨RX9, "spoil", "(I)I"⟩
abbrev cX9_known : ByteArray := prog_1_method_8_code
def yX9_known : MethodName := ⟨RX9, "known", "(II)I"⟩
abbrev cX9_seeker : ByteArray := prog_1_method_9_code
def yX9_seeker : MethodName := ⟨RX9, "seeker", "(I)I"⟩
abbrev cX9_word : ByteArray := prog_1_method_10_code
def yX9_word : MethodName := ⟨RX9, "word", "(III)I"⟩
abbrev cX9_span : ByteArray := prog_1_method_11_code
def yX9_span : MethodName := ⟨RX9, "span", "(III)I"⟩
abbrev cX9_points : ByteArray := prog_1_method_12_code
def yX9_points : MethodName := ⟨RX9, "points", "(II)I"⟩
abbrev cX9_likeness : ByteArray := prog_1_method_13_code
def yX9_likeness : MethodName := ⟨RX9, "likeness", "(II)I"⟩
abbrev cX9_chance : ByteArray := prog_1_method_14_code
def yX9_chance : MethodName := ⟨RX9, "chance", "(II)I"⟩
abbrev cX9_match : ByteArray := prog_1_method_15_code
def yX9_match : MethodName := ⟨RX9, "match", "(I)I"⟩
abbrev cX9_seen : ByteArray := prog_1_method_16_code
def yX9_seen : MethodName := ⟨RX9, "seen", "(II)I"⟩
abbrev cX9_answer : ByteArray := prog_1_method_17_code
def yX9_answer : MethodName := ⟨RX9, "answer", "(III)I"⟩
abbrev cX9_back : ByteArray := prog_1_method_18_code
def yX9_back : MethodName := ⟨RX9, "back", "(I)I"⟩
abbrev cX9_address : ByteArray := prog_1_method_19_code
def yX9_address : MethodName := ⟨RX9, "address", "(II)I"⟩
abbrev cX9_post : ByteArray := prog_1_method_20_code
def yX9_post : MethodName := ⟨RX9, "post", "(II)I"⟩
abbrev cX9_fits : ByteArray := prog_1_method_21_code
def yX9_fits : MethodName := ⟨RX9, "fits", "(III)I"⟩
abbrev cX9_likely : ByteArray := prog_1_method_22_code
def yX9_likely : MethodName := ⟨RX9, "likely", "(III)I"⟩
abbrev cX9_share : ByteArray := prog_1_method_23_code
def yX9_share : MethodName := ⟨RX9, "share", "(III)I"⟩
abbrev cX9_law : ByteArray := prog_1_method_24_code
def yX9_law : MethodName := ⟨RX9, "law", "(II)I"⟩
abbrev cX9_sellable : ByteArray := prog_1_method_25_code
def yX9_sellable : MethodName := ⟨RX9, "sellable", "()I"⟩
abbrev cX9_sell : ByteArray := prog_1_method_26_code
def yX9_sell : MethodName := ⟨RX9, "sell", "(II)I"⟩
abbrev cX9_sold : ByteArray := prog_1_method_27_code
def yX9_sold : MethodName := ⟨RX9, "sold", "(I)I"⟩
abbrev cX9_owed : ByteArray := prog_1_method_28_code
def yX9_owed : MethodName := ⟨RX9, "owed", "(III)I"⟩
abbrev cX9_lots : ByteArray := prog_1_method_29_code
def yX9_lots : MethodName := ⟨RX9, "lots", "(IIII)I"⟩
abbrev cX9_sorted : ByteArray := prog_1_method_30_code
def yX9_sorted : MethodName := ⟨RX9, "sorted", "(II)I"⟩
abbrev cX9_sorter : ByteArray := prog_1_method_31_code
def yX9_sorter : MethodName := ⟨RX9, "sorter", "(II)I"⟩
abbrev cX9_money : ByteArray := prog_1_method_32_code
def yX9_money : MethodName := ⟨RX9, "money", "(III)I"⟩
abbrev cX9_counted : ByteArray := prog_1_method_33_code
def yX9_counted : MethodName := ⟨RX9, "counted", "(I)I"⟩
abbrev cX9_burst : ByteArray := prog_1_method_34_code
def yX9_burst : MethodName := ⟨RX9, "burst", "(III)I"⟩
abbrev cX9_tell : ByteArray := prog_1_method_35_code
def yX9_tell : MethodName := ⟨RX9, "tell", "(I)I"⟩
abbrev cX9_check : ByteArray := prog_1_method_36_code
def yX9_check : MethodName := ⟨RX9, "check", "()I"⟩
abbrev cX9_count : ByteArray := prog_1_method_37_code
def yX9_count : MethodName := ⟨RX9, "count", "(I)I"⟩
abbrev cX9_found : ByteArray := prog_1_method_38_code
def yX9_found : MethodName := ⟨RX9, "found", "(I)I"⟩
abbrev cX9_finding : ByteArray := prog_1_method_39_code
def yX9_finding : MethodName := ⟨RX9, "finding", "(I)I"⟩
abbrev cX9_within : ByteArray := prog_1_method_40_code
def yX9_within : MethodName := ⟨RX9, "within", "(III)Z"⟩
abbrev cX9_isDay : ByteArray := prog_1_method_41_code
def yX9_isDay : MethodName := ⟨RX9, "isDay", "(I)Z"⟩
abbrev cX9_hasBit : ByteArray := prog_1_method_42_code
def yX9_hasBit : MethodName := ⟨RX9, "hasBit", "(II)Z"⟩
abbrev cX9_thingOf : ByteArray := prog_1_method_43_code
def yX9_thingOf : MethodName := ⟨RX9, "thingOf", "(I)LLostParcels$Thing;"⟩
abbrev cX9_seekerOf : ByteArray := prog_1_method_44_code
def yX9_seekerOf : MethodName := ⟨RX9, "seekerOf", "(I)LLostParcels$Seeker;"⟩
abbrev cX9_addressOf : ByteArray := prog_1_method_45_code
def yX9_addressOf : MethodName := ⟨RX9, "addressOf", "(I)LLostParcels$Address;"⟩
abbrev cX9_spoilIfOld : ByteArray := prog_1_method_46_code
def yX9_spoilIfOld : MethodName := ⟨RX9, "spoilIfOld", "(LLostParcels$Thing;)Z"⟩
abbrev cX9_thingsThatAre : ByteArray := prog_1_method_47_code
def yX9_thingsThatAre : MethodName := ⟨RX9, "thingsThatAre", "(I)I"⟩
abbrev cX9_heldBy : ByteArray := prog_1_method_48_code
def yX9_heldBy : MethodName := ⟨RX9, "heldBy", "(I)I"⟩
abbrev cX9_likenessOf : ByteArray := prog_1_method_49_code
def yX9_likenessOf : MethodName := ⟨RX9, "likenessOf", "(LLostParcels$Seeker;LLostParcels$Thing;)I"⟩
abbrev cX9_bestMatch : ByteArray := prog_1_method_50_code
def yX9_bestMatch : MethodName := ⟨RX9, "bestMatch", "()J"⟩
abbrev cX9_digitsOf : ByteArray := prog_1_method_51_code
def yX9_digitsOf : MethodName := ⟨RX9, "digitsOf", "(I)I"⟩
abbrev cX9_isWord : ByteArray := prog_1_method_52_code
def yX9_isWord : MethodName := ⟨RX9, "isWord", "(I)Z"⟩
abbrev cX9_isLabel : ByteArray := prog_1_method_53_code
def yX9_isLabel : MethodName := ⟨RX9, "isLabel", "(II)Z"⟩
abbrev cX9_fittingBits : ByteArray := prog_1_method_54_code
def yX9_fittingBits : MethodName := ⟨RX9, "fittingBits", "(II)I"⟩
abbrev cX9_rankAmong : ByteArray := prog_1_method_55_code
def yX9_rankAmong : MethodName := ⟨RX9, "rankAmong", "(II)I"⟩
abbrev cX9_mayBeSold : ByteArray := prog_1_method_56_code
def yX9_mayBeSold : MethodName := ⟨RX9, "mayBeSold", "(LLostParcels$Thing;)Z"⟩
abbrev cX9_hasBitOfNoThing : ByteArray := prog_1_method_57_code
def yX9_hasBitOfNoThing : MethodName := ⟨RX9, "hasBitOfNoThing", "(I)Z"⟩
abbrev cX9_choose : ByteArray := prog_1_method_58_code
def yX9_choose : MethodName := ⟨RX9, "choose", "(I)V"⟩
abbrev cX9_chosenMayBeSold : ByteArray := prog_1_method_59_code
def yX9_chosenMayBeSold : MethodName := ⟨RX9, "chosenMayBeSold", "()Z"⟩
abbrev cX9_chosenAreKept : ByteArray := prog_1_method_60_code
def yX9_chosenAreKept : MethodName := ⟨RX9, "chosenAreKept", "()Z"⟩
abbrev cX9_chosenWorths : ByteArray := prog_1_method_61_code
def yX9_chosenWorths : MethodName := ⟨RX9, "chosenWorths", "()I"⟩
abbrev cX9_spread : ByteArray := prog_1_method_62_code
def yX9_spread : MethodName := ⟨RX9, "spread", "(II)I"⟩
def RX10 : String := "LostParcelsModel"
def TX10 : u_T := fun k => match k with
  | 0 => ("LostParcelsModel", "today", "I", false)
  | 1 => ("LostParcelsModel", "spoil", "I", false)
  | 2 => ("LostParcelsModel", "things", "I", false)
  | 3 => ("LostParcelsModel", "kind", "[I", true)
  | 4 => ("LostParcelsModel", "foundOn", "[I", true)
  | 5 => ("LostParcelsModel", "trait", "[I", true)
  | 6 => ("LostParcelsModel", "weight", "[I", true)
  | 7 => ("LostParcelsModel", "worth", "[I", true)
  | 8 => ("LostParcelsModel", "secret", "[I", true)
  | 9 => ("LostParcelsModel", "is", "[I", true)
  | 10 => ("LostParcelsModel", "hasIt", "[I", true)
  | 11 => ("LostParcelsModel", "since", "[I", true)
  | 12 => ("LostParcelsModel", "shareOf", "[I", true)
  | 13 => ("LostParcelsModel", "isPaid", "[Z", true)
  | 14 => ("LostParcelsModel", "counts", "[I", true)
  | 15 => ("LostParcelsModel", "events", "[I", true)
  | 16 => ("LostParcelsModel", "eventMany", "I", false)
  | 17 => ("LostParcelsModel", "seekers", "I", false)
  | 18 => ("LostParcelsModel", "lostOn", "[I", true)
  | 19 => ("LostParcelsModel", "word", "[I", true)
  | 20 => ("LostParcelsModel", "spanLow", "[I", true)
  | 21 => ("LostParcelsModel", "spanHigh", "[I", true)
  | 22 => ("LostParcelsModel", "falseMany", "[I", true)
  | 23 => ("LostParcelsModel", "isBarred", "[Z", true)
  | 24 => ("LostParcelsModel", "points", "[I", true)
  | 25 => ("LostParcelsModel", "addresses", "I", false)
  | 26 => ("LostParcelsModel", "letters", "[I", true)
  | 27 => ("LostParcelsModel", "post", "[I", true)
  | 28 => ("LostParcelsModel", "months", "[I", true)
  | 29 => ("LostParcelsModel", "records", "I", false)
  | 30 => ("LostParcelsModel", "machine", "[I", true)
  | 31 => ("LostParcelsModel", "torn", "[I", true)
  | 32 => ("LostParcelsModel", "waits", "I", false)
  | 33 => ("LostParcelsModel", "waiting", "[I", true)
  | 34 => ("LostParcelsModel", "paid", "I", false)
  | 35 => ("LostParcelsModel", "found", "[I", true)
  | 36 => ("LostParcelsModel", "match", "[I", true)
  | 37 => ("LostParcelsModel", "most", "[I", true)
  | 38 => ("LostParcelsModel", "next", "[I", true)
  | 39 => ("LostParcelsModel", "likes", "[I", true)
  | 40 => ("LostParcelsModel", "member", "[I", true)
  | 41 => ("LostParcelsModel", "members", "I", false)
  | 42 => ("LostParcelsModel", "fewest", "[I", true)
  | 43 => ("LostParcelsModel", "isLot", "[Z", true)
  | _ => ("LostParcelsModel", "ways", "[J", true)
def tyX10 : Nat → FieldType := fun k => match k with
  | 0 => .int
  | 1 => .int
  | 2 => .int
  | 3 => .array .int
  | 4 => .array .int
  | 5 => .array .int
  | 6 => .array .int
  | 7 => .array .int
  | 8 => .array .int
  | 9 => .array .int
  | 10 => .array .int
  | 11 => .array .int
  | 12 => .array .int
  | 13 => .array .boolean
  | 14 => .array .int
  | 15 => .array .int
  | 16 => .int
  | 17 => .int
  | 18 => .array .int
  | 19 => .array .int
  | 20 => .array .int
  | 21 => .array .int
  | 22 => .array .int
  | 23 => .array .boolean
  | 24 => .array .int
  | 25 => .int
  | 26 => .array .int
  | 27 => .array .int
  | 28 => .array .int
  | 29 => .int
  | 30 => .array .int
  | 31 => .array .int
  | 32 => .int
  | 33 => .array .int
  | 34 => .int
  | 35 => .array .int
  | 36 => .array .int
  | 37 => .array .int
  | 38 => .array .int
  | 39 => .array .int
  | 40 => .array .int
  | 41 => .int
  | 42 => .array .int
  | 43 => .array .boolean
  | _ => .array .long
abbrev wsX100 : List Cond := u_ws RX10 TX10 45
theorem nmX10 : ∀ a, a < 45 → ∀ b, b < 45 → a ≠ b → (TX10 a).2.1 ≠ (TX10 b).2.1 := by decide +kernel
theorem tyX10_ok : ∀ k, k < 45 → parseFieldDescriptor (TX10 k).2.2.1 = some (tyX10 k) := by decide +kernel
abbrev cX10_init : ByteArray := prog_12_method_1_code
def yX10_init : MethodName := ⟨RX10, "<init>", "()V"⟩
abbrev cX10_finding : ByteArray := prog_12_method_2_code
def yX10_finding : MethodName := ⟨RX10, "finding", "(I)I"⟩
abbrev cX10_isIn : ByteArray := prog_12_method_3_code
def yX10_isIn : MethodName := ⟨RX10, "isIn", "(III)Z"⟩
abbrev cX10_isThing : ByteArray := prog_12_method_4_code
def yX10_isThing : MethodName := ⟨RX10, "isThing", "(I)Z"⟩
abbrev cX10_isSeeker : ByteArray := prog_12_method_5_code
def yX10_isSeeker : MethodName := ⟨RX10, "isSeeker", "(I)Z"⟩
abbrev cX10_isTrait : ByteArray := prog_12_method_6_code
def yX10_isTrait : MethodName := ⟨RX10, "isTrait", "(I)Z"⟩
abbrev cX10_becomes : ByteArray := prog_12_method_7_code
def yX10_becomes : MethodName := ⟨RX10, "becomes", "(II)V"⟩
abbrev cX10_spoils : ByteArray := prog_12_method_8_code
def yX10_spoils : MethodName := ⟨RX10, "spoils", "(I)Z"⟩
abbrev cX10_thing : ByteArray := prog_12_method_9_code
def yX10_thing : MethodName := ⟨RX10, "thing", "(IIIII)I"⟩
abbrev cX10_as : ByteArray := prog_12_method_10_code
def yX10_as : MethodName := ⟨RX10, "as", "(II)I"⟩
abbrev cX10_trait : ByteArray := prog_12_method_11_code
def yX10_trait : MethodName := ⟨RX10, "trait", "(III)I"⟩
abbrev cX10_about : ByteArray := prog_12_method_12_code
def yX10_about : MethodName := ⟨RX10, "about", "(II)I"⟩
abbrev cX10_day : ByteArray := prog_12_method_13_code
def yX10_day : MethodName := ⟨RX10, "day", "(I)I"⟩
abbrev cX10_spoil : ByteArray := prog_12_method_14_code
def yX10_spoil : MethodName := ⟨RX10, "spoil", "(I)I"⟩
abbrev cX10_known : ByteArray := prog_12_method_15_code
def yX10_known : MethodName := ⟨RX10, "known", "(II)I"⟩
abbrev cX10_seeker : ByteArray := prog_12_method_16_code
def yX10_seeker : MethodName := ⟨RX10, "seeker", "(I)I"⟩
abbrev cX10_word : ByteArray := prog_12_method_17_code
def yX10_word : MethodName := ⟨RX10, "word", "(III)I"⟩
abbrev cX10_span : ByteArray := prog_12_method_18_code
def yX10_span : MethodName := ⟨RX10, "span", "(III)I"⟩
abbrev cX10_points : ByteArray := prog_12_method_19_code
def yX10_points : MethodName := ⟨RX10, "points", "(II)I"⟩
abbrev cX10_like : ByteArray := prog_12_method_20_code
def yX10_like : MethodName := ⟨RX10, "like", "(II)I"⟩
abbrev cX10_likeness : ByteArray := prog_12_method_21_code
def yX10_likeness : MethodName := ⟨RX10, "likeness", "(II)I"⟩
abbrev cX10_chance : ByteArray := prog_12_method_22_code
def yX10_chance : MethodName := ⟨RX10, "chance", "(II)I"⟩
abbrev cX10_mostOf : ByteArray := prog_12_method_23_code
def yX10_mostOf : MethodName := ⟨RX10, "mostOf", "(II)I"⟩
abbrev cX10_tellMatch : ByteArray := prog_12_method_24_code
def yX10_tellMatch : MethodName := ⟨RX10, "tellMatch", "()I"⟩
abbrev cX10_match : ByteArray := prog_12_method_25_code
def yX10_match : MethodName := ⟨RX10, "match", "(I)I"⟩
abbrev cX10_seen : ByteArray := prog_12_method_26_code
def yX10_seen : MethodName := ⟨RX10, "seen", "(II)I"⟩
abbrev cX10_tellsFalse : ByteArray := prog_12_method_27_code
def yX10_tellsFalse : MethodName := ⟨RX10, "tellsFalse", "(I)V"⟩
abbrev cX10_answer : ByteArray := prog_12_method_28_code
def yX10_answer : MethodName := ⟨RX10, "answer", "(III)I"⟩
abbrev cX10_back : ByteArray := prog_12_method_29_code
def yX10_back : MethodName := ⟨RX10, "back", "(I)I"⟩
abbrev cX10_places : ByteArray := prog_12_method_30_code
def yX10_places : MethodName := ⟨RX10, "places", "(I)I"⟩
abbrev cX10_digit : ByteArray := prog_12_method_31_code
def yX10_digit : MethodName := ⟨RX10, "digit", "(II)I"⟩
abbrev cX10_address : ByteArray := prog_12_method_32_code
def yX10_address : MethodName := ⟨RX10, "address", "(II)I"⟩
abbrev cX10_isAddress : ByteArray := prog_12_method_33_code
def yX10_isAddress : MethodName := ⟨RX10, "isAddress", "(I)Z"⟩
abbrev cX10_post : ByteArray := prog_12_method_34_code
def yX10_post : MethodName := ⟨RX10, "post", "(II)I"⟩
abbrev cX10_isLabel : ByteArray := prog_12_method_35_code
def yX10_isLabel : MethodName := ⟨RX10, "isLabel", "(II)Z"⟩
abbrev cX10_liesOn : ByteArray := prog_12_method_36_code
def yX10_liesOn : MethodName := ⟨RX10, "liesOn", "(IIII)Z"⟩
abbrev cX10_isFit : ByteArray := prog_12_method_37_code
def yX10_isFit : MethodName := ⟨RX10, "isFit", "(III)Z"⟩
abbrev cX10_fits : ByteArray := prog_12_method_38_code
def yX10_fits : MethodName := ⟨RX10, "fits", "(III)I"⟩
abbrev cX10_likely : ByteArray := prog_12_method_39_code
def yX10_likely : MethodName := ⟨RX10, "likely", "(III)I"⟩
abbrev cX10_share : ByteArray := prog_12_method_40_code
def yX10_share : MethodName := ⟨RX10, "share", "(III)I"⟩
abbrev cX10_law : ByteArray := prog_12_method_41_code
def yX10_law : MethodName := ⟨RX10, "law", "(II)I"⟩
abbrev cX10_maySell : ByteArray := prog_12_method_42_code
def yX10_maySell : MethodName := ⟨RX10, "maySell", "(I)Z"⟩
abbrev cX10_allSellable : ByteArray := prog_12_method_43_code
def yX10_allSellable : MethodName := ⟨RX10, "allSellable", "()I"⟩
abbrev cX10_sellable : ByteArray := prog_12_method_44_code
def yX10_sellable : MethodName := ⟨RX10, "sellable", "()I"⟩
abbrev cX10_ones : ByteArray := prog_12_method_45_code
def yX10_ones : MethodName := ⟨RX10, "ones", "(I)I"⟩
abbrev cX10_isSet : ByteArray := prog_12_method_46_code
def yX10_isSet : MethodName := ⟨RX10, "isSet", "(I)Z"⟩
abbrev cX10_sell : ByteArray := prog_12_method_47_code
def yX10_sell : MethodName := ⟨RX10, "sell", "(II)I"⟩
abbrev cX10_sold : ByteArray := prog_12_method_48_code
def yX10_sold : MethodName := ⟨RX10, "sold", "(I)I"⟩
abbrev cX10_owed : ByteArray := prog_12_method_49_code
def yX10_owed : MethodName := ⟨RX10, "owed", "(III)I"⟩
abbrev cX10_tellLots : ByteArray := prog_12_method_50_code
def yX10_tellLots : MethodName := ⟨RX10, "tellLots", "(II)V"⟩
abbrev cX10_firstLot : ByteArray := prog_12_method_51_code
def yX10_firstLot : MethodName := ⟨RX10, "firstLot", "(I)I"⟩
abbrev cX10_lots : ByteArray := prog_12_method_52_code
def yX10_lots : MethodName := ⟨RX10, "lots", "(IIII)I"⟩
abbrev cX10_waysOf : ByteArray := prog_12_method_53_code
def yX10_waysOf : MethodName := ⟨RX10, "waysOf", "(II)J"⟩
abbrev cX10_tellWays : ByteArray := prog_12_method_54_code
def yX10_tellWays : MethodName := ⟨RX10, "tellWays", "()V"⟩
abbrev cX10_sorted : ByteArray := prog_12_method_55_code
def yX10_sorted : MethodName := ⟨RX10, "sorted", "(II)I"⟩
abbrev cX10_sorter : ByteArray := prog_12_method_56_code
def yX10_sorter : MethodName := ⟨RX10, "sorter", "(II)I"⟩
abbrev cX10_money : ByteArray := prog_12_method_57_code
def yX10_money : MethodName := ⟨RX10, "money", "(III)I"⟩
abbrev cX10_handsFor : ByteArray := prog_12_method_58_code
def yX10_handsFor : MethodName := ⟨RX10, "handsFor", "(II)I"⟩
abbrev cX10_counted : ByteArray := prog_12_method_59_code
def yX10_counted : MethodName := ⟨RX10, "counted", "(I)I"⟩
abbrev cX10_burst : ByteArray := prog_12_method_60_code
def yX10_burst : MethodName := ⟨RX10, "burst", "(III)I"⟩
abbrev cX10_tell : ByteArray := prog_12_method_61_code
def yX10_tell : MethodName := ⟨RX10, "tell", "(I)I"⟩
abbrev cX10_check : ByteArray := prog_12_method_62_code
def yX10_check : MethodName := ⟨RX10, "check", "()I"⟩
abbrev cX10_count : ByteArray := prog_12_method_63_code
def yX10_count : MethodName := ⟨RX10, "count", "(I)I"⟩
abbrev cX10_found : ByteArray := prog_12_method_64_code
def yX10_found : MethodName := ⟨RX10, "found", "(I)I"⟩
def RJx145de : String := "java/io/Serializable"
def TJx145de : u_T := fun k => match k with
  | _ => ("", "", "", false)
def tyJx145de : Nat → FieldType := fun k => match k with
  | _ => .int
abbrev wsJx145de0 : List Cond := u_ws RJx145de TJx145de 0
theorem nmJx145de : ∀ a, a < 0 → ∀ b, b < 0 → a ≠ b → (TJx145de a).2.1 ≠ (TJx145de b).2.1 := by decide +kernel
theorem tyJx145de_ok : ∀ k, k < 0 → parseFieldDescriptor (TJx145de k).2.2.1 = some (tyJx145de k) := by decide +kernel
def RJx8e188 : String := "java/lang/Cloneable"
def TJx8e188 : u_T := fun k => match k with
  | _ => ("", "", "", false)
def tyJx8e188 : Nat → FieldType := fun k => match k with
  | _ => .int
abbrev wsJx8e1880 : List Cond := u_ws RJx8e188 TJx8e188 0
theorem nmJx8e188 : ∀ a, a < 0 → ∀ b, b < 0 → a ≠ b → (TJx8e188 a).2.1 ≠ (TJx8e188 b).2.1 := by decide +kernel
theorem tyJx8e188_ok : ∀ k, k < 0 → parseFieldDescriptor (TJx8e188 k).2.2.1 = some (tyJx8e188 k) := by decide +kernel
def RJ6 : String := "java/lang/Integer"
def TJ6 : u_T := fun k => match k with
  | _ => ("", "", "", false)
def tyJ6 : Nat → FieldType := fun k => match k with
  | _ => .int
abbrev wsJ60 : List Cond := u_ws RJ6 TJ6 0
theorem nmJ6 : ∀ a, a < 0 → ∀ b, b < 0 → a ≠ b → (TJ6 a).2.1 ≠ (TJ6 b).2.1 := by decide +kernel
theorem tyJ6_ok : ∀ k, k < 0 → parseFieldDescriptor (TJ6 k).2.2.1 = some (tyJ6 k) := by decide +kernel
abbrev cJ6_numberOfTrailingZeros_0f7a4 : ByteArray := prog_15_method_48_code
def yJ6_numberOfTrailingZeros_0f7a4 : MethodName := ⟨RJ6, "numberOfTrailingZeros", "(I)I"⟩
abbrev cJ6_bitCount_0f7a4 : ByteArray := prog_15_method_49_code
def yJ6_bitCount_0f7a4 : MethodName := ⟨RJ6, "bitCount", "(I)I"⟩
def RJxab1ab : String := "java/lang/Iterable"
def TJxab1ab : u_T := fun k => match k with
  | _ => ("", "", "", false)
def tyJxab1ab : Nat → FieldType := fun k => match k with
  | _ => .int
abbrev wsJxab1ab0 : List Cond := u_ws RJxab1ab TJxab1ab 0
theorem nmJxab1ab : ∀ a, a < 0 → ∀ b, b < 0 → a ≠ b → (TJxab1ab a).2.1 ≠ (TJxab1ab b).2.1 := by decide +kernel
theorem tyJxab1ab_ok : ∀ k, k < 0 → parseFieldDescriptor (TJxab1ab k).2.2.1 = some (tyJxab1ab k) := by decide +kernel
def RJ9 : String := "java/lang/Math"
def TJ9 : u_T := fun k => match k with
  | _ => ("", "", "", false)
def tyJ9 : Nat → FieldType := fun k => match k with
  | _ => .int
abbrev wsJ90 : List Cond := u_ws RJ9 TJ9 0
theorem nmJ9 : ∀ a, a < 0 → ∀ b, b < 0 → a ≠ b → (TJ9 a).2.1 ≠ (TJ9 b).2.1 := by decide +kernel
theorem tyJ9_ok : ∀ k, k < 0 → parseFieldDescriptor (TJ9 k).2.2.1 = some (tyJ9 k) := by decide +kernel
abbrev cJ9_abs_0f7a4 : ByteArray := prog_17_method_59_code
def yJ9_abs_0f7a4 : MethodName := ⟨RJ9, "abs", "(I)I"⟩
abbrev cJ9_max_7cf53 : ByteArray := prog_17_method_65_code
def yJ9_max_7cf53 : MethodName := ⟨RJ9, "max", "(II)I"⟩
abbrev cJ9_max_f86c9 : ByteArray := prog_17_method_66_code
def yJ9_max_f86c9 : MethodName := ⟨RJ9, "max", "(JJ)J"⟩
abbrev cJ9_min_7cf53 : ByteArray := prog_17_method_69_code
def yJ9_min_7cf53 : MethodName := ⟨RJ9, "min", "(II)I"⟩
def RJ10 : String := "java/lang/System"
def TJ10 : u_T := fun k => match k with
  | _ => ("", "", "", false)
def tyJ10 : Nat → FieldType := fun k => match k with
  | _ => .int
abbrev wsJ100 : List Cond := u_ws RJ10 TJ10 0
theorem nmJ10 : ∀ a, a < 0 → ∀ b, b < 0 → a ≠ b → (TJ10 a).2.1 ≠ (TJ10 b).2.1 := by decide +kernel
theorem tyJ10_ok : ∀ k, k < 0 → parseFieldDescriptor (TJ10 k).2.2.1 = some (tyJ10 k) := by decide +kernel
def RJxa1e45 : String := "java/util/AbstractCollection"
def TJxa1e45 : u_T := fun k => match k with
  | _ => ("", "", "", false)
def tyJxa1e45 : Nat → FieldType := fun k => match k with
  | _ => .int
abbrev wsJxa1e450 : List Cond := u_ws RJxa1e45 TJxa1e45 0
theorem nmJxa1e45 : ∀ a, a < 0 → ∀ b, b < 0 → a ≠ b → (TJxa1e45 a).2.1 ≠ (TJxa1e45 b).2.1 := by decide +kernel
theorem tyJxa1e45_ok : ∀ k, k < 0 → parseFieldDescriptor (TJxa1e45 k).2.2.1 = some (tyJxa1e45 k) := by decide +kernel
abbrev cJxa1e45_init_da8c8 : ByteArray := prog_19_method_1_code
def yJxa1e45_init_da8c8 : MethodName := ⟨RJxa1e45, "<init>", "()V"⟩
def RJxc12de : String := "java/util/AbstractList"
def TJxc12de : u_T := fun k => match k with
  | _ => ("", "", "", false)
def tyJxc12de : Nat → FieldType := fun k => match k with
  | _ => .int
abbrev wsJxc12de0 : List Cond := u_ws RJxc12de TJxc12de 0
theorem nmJxc12de : ∀ a, a < 0 → ∀ b, b < 0 → a ≠ b → (TJxc12de a).2.1 ≠ (TJxc12de b).2.1 := by decide +kernel
theorem tyJxc12de_ok : ∀ k, k < 0 → parseFieldDescriptor (TJxc12de k).2.2.1 = some (tyJxc12de k) := by decide +kernel
abbrev cJxc12de_init_da8c8 : ByteArray := prog_20_method_1_code
def yJxc12de_init_da8c8 : MethodName := ⟨RJxc12de, "<init>", "()V"⟩
def RJx4a65c : String := "java/util/ArrayList"
def TJx4a65c : u_T := fun k => match k with
  | 0 => ("java/util/AbstractList", "modCount", "I", false)
  | 1 => ("java/util/ArrayList", "elementData", "[Ljava/lang/Object;", false)
  | _ => ("java/util/ArrayList", "size", "I", false)
def tyJx4a65c : Nat → FieldType := fun k => match k with
  | 0 => .int
  | 1 => .array (.object "java/lang/Object")
  | _ => .int
abbrev wsJx4a65c0 : List Cond := u_ws RJx4a65c TJx4a65c 3
theorem nmJx4a65c : ∀ a, a < 3 → ∀ b, b < 3 → a ≠ b → (TJx4a65c a).2.1 ≠ (TJx4a65c b).2.1 := by decide +kernel
theorem tyJx4a65c_ok : ∀ k, k < 3 → parseFieldDescriptor (TJx4a65c k).2.2.1 = some (tyJx4a65c k) := by decide +kernel
abbrev cJx4a65c_init_da8c8 : ByteArray := prog_21_method_2_code
def yJx4a65c_init_da8c8 : MethodName := ⟨RJx4a65c, "<init>", "()V"⟩
abbrev cJx4a65c_grow_92f84 : ByteArray := prog_21_method_6_code
def yJx4a65c_grow_92f84 : MethodName := ⟨RJx4a65c, "grow", "(I)[Ljava/lang/Object;"⟩
abbrev cJx4a65c_grow_d5877 : ByteArray := prog_21_method_7_code
def yJx4a65c_grow_d5877 : MethodName := ⟨RJx4a65c, "grow", "()[Ljava/lang/Object;"⟩
abbrev cJx4a65c_size_8abf5 : ByteArray := prog_21_method_8_code
def yJx4a65c_size_8abf5 : MethodName := ⟨RJx4a65c, "size", "()I"⟩
abbrev cJx4a65c_isEmpty_aae02 : ByteArray := prog_21_method_9_code
def yJx4a65c_isEmpty_aae02 : MethodName := ⟨RJx4a65c, "isEmpty", "()Z"⟩
abbrev cJx4a65c_elementData_915e3 : ByteArray := prog_21_method_18_code
def yJx4a65c_elementData_915e3 : MethodName := ⟨RJx4a65c, "elementData", "(I)Ljava/lang/Object;"⟩
abbrev cJx4a65c_get_915e3 : ByteArray := prog_21_method_20_code
def yJx4a65c_get_915e3 : MethodName := ⟨RJx4a65c, "get", "(I)Ljava/lang/Object;"⟩
abbrev cJx4a65c_add_72be8 : ByteArray := prog_21_method_24_code
def yJx4a65c_add_72be8 : MethodName := ⟨RJx4a65c, "add", "(Ljava/lang/Object;[Ljava/lang/Object;I)V"⟩
abbrev cJx4a65c_add_9ea2d : ByteArray := prog_21_method_25_code
def yJx4a65c_add_9ea2d : MethodName := ⟨RJx4a65c, "add", "(Ljava/lang/Object;)Z"⟩
abbrev cJx4a65c_clear_da8c8 : ByteArray := prog_21_method_40_code
def yJx4a65c_clear_da8c8 : MethodName := ⟨RJx4a65c, "clear", "()V"⟩
def RJ7 : String := "java/util/Arrays"
def TJ7 : u_T := fun k => match k with
  | _ => ("", "", "", false)
def tyJ7 : Nat → FieldType := fun k => match k with
  | _ => .int
abbrev wsJ70 : List Cond := u_ws RJ7 TJ7 0
theorem nmJ7 : ∀ a, a < 0 → ∀ b, b < 0 → a ≠ b → (TJ7 a).2.1 ≠ (TJ7 b).2.1 := by decide +kernel
theorem tyJ7_ok : ∀ k, k < 0 → parseFieldDescriptor (TJ7 k).2.2.1 = some (tyJ7 k) := by decide +kernel
abbrev cJ7_fill_d0a16 : ByteArray := prog_22_method_101_code
def yJ7_fill_d0a16 : MethodName := ⟨RJ7, "fill", "([JJ)V"⟩
abbrev cJ7_fill_53178 : ByteArray := prog_22_method_103_code
def yJ7_fill_53178 : MethodName := ⟨RJ7, "fill", "([II)V"⟩
abbrev cJ7_copyOf_1904c : ByteArray := prog_22_method_119_code
def yJ7_copyOf_1904c : MethodName := ⟨RJ7, "copyOf", "([Ljava/lang/Object;I)[Ljava/lang/Object;"⟩
abbrev cJ7_copyOf_6403c : ByteArray := prog_22_method_120_code
def yJ7_copyOf_6403c : MethodName := ⟨RJ7, "copyOf", "([Ljava/lang/Object;ILjava/lang/Class;)[Ljava/lang/Object;"⟩
def RJx5ef63 : String := "java/util/Collection"
def TJx5ef63 : u_T := fun k => match k with
  | _ => ("", "", "", false)
def tyJx5ef63 : Nat → FieldType := fun k => match k with
  | _ => .int
abbrev wsJx5ef630 : List Cond := u_ws RJx5ef63 TJx5ef63 0
theorem nmJx5ef63 : ∀ a, a < 0 → ∀ b, b < 0 → a ≠ b → (TJx5ef63 a).2.1 ≠ (TJx5ef63 b).2.1 := by decide +kernel
theorem tyJx5ef63_ok : ∀ k, k < 0 → parseFieldDescriptor (TJx5ef63 k).2.2.1 = some (tyJx5ef63 k) := by decide +kernel
def RJxbd725 : String := "java/util/List"
def TJxbd725 : u_T := fun k => match k with
  | _ => ("", "", "", false)
def tyJxbd725 : Nat → FieldType := fun k => match k with
  | _ => .int
abbrev wsJxbd7250 : List Cond := u_ws RJxbd725 TJxbd725 0
theorem nmJxbd725 : ∀ a, a < 0 → ∀ b, b < 0 → a ≠ b → (TJxbd725 a).2.1 ≠ (TJxbd725 b).2.1 := by decide +kernel
theorem tyJxbd725_ok : ∀ k, k < 0 → parseFieldDescriptor (TJxbd725 k).2.2.1 = some (tyJxbd725 k) := by decide +kernel
def RJ15 : String := "java/util/Objects"
def TJ15 : u_T := fun k => match k with
  | _ => ("", "", "", false)
def tyJ15 : Nat → FieldType := fun k => match k with
  | _ => .int
abbrev wsJ150 : List Cond := u_ws RJ15 TJ15 0
theorem nmJ15 : ∀ a, a < 0 → ∀ b, b < 0 → a ≠ b → (TJ15 a).2.1 ≠ (TJ15 b).2.1 := by decide +kernel
theorem tyJ15_ok : ∀ k, k < 0 → parseFieldDescriptor (TJ15 k).2.2.1 = some (tyJ15 k) := by decide +kernel
abbrev cJ15_checkIndex_7cf53 : ByteArray := prog_25_method_17_code
def yJ15_checkIndex_7cf53 : MethodName := ⟨RJ15, "checkIndex", "(II)I"⟩
def RJxf0a74 : String := "java/util/RandomAccess"
def TJxf0a74 : u_T := fun k => match k with
  | _ => ("", "", "", false)
def tyJxf0a74 : Nat → FieldType := fun k => match k with
  | _ => .int
abbrev wsJxf0a740 : List Cond := u_ws RJxf0a74 TJxf0a74 0
theorem nmJxf0a74 : ∀ a, a < 0 → ∀ b, b < 0 → a ≠ b → (TJxf0a74 a).2.1 ≠ (TJxf0a74 b).2.1 := by decide +kernel
theorem tyJxf0a74_ok : ∀ k, k < 0 → parseFieldDescriptor (TJxf0a74 k).2.2.1 = some (tyJxf0a74 k) := by decide +kernel
def RJxa66e6 : String := "java/util/SequencedCollection"
def TJxa66e6 : u_T := fun k => match k with
  | _ => ("", "", "", false)
def tyJxa66e6 : Nat → FieldType := fun k => match k with
  | _ => .int
abbrev wsJxa66e60 : List Cond := u_ws RJxa66e6 TJxa66e6 0
theorem nmJxa66e6 : ∀ a, a < 0 → ∀ b, b < 0 → a ≠ b → (TJxa66e6 a).2.1 ≠ (TJxa66e6 b).2.1 := by decide +kernel
theorem tyJxa66e6_ok : ∀ k, k < 0 → parseFieldDescriptor (TJxa66e6 k).2.2.1 = some (tyJxa66e6 k) := by decide +kernel
def RJ8 : String := "jdk/internal/util/ArraysSupport"
def TJ8 : u_T := fun k => match k with
  | _ => ("", "", "", false)
def tyJ8 : Nat → FieldType := fun k => match k with
  | _ => .int
abbrev wsJ80 : List Cond := u_ws RJ8 TJ8 0
theorem nmJ8 : ∀ a, a < 0 → ∀ b, b < 0 → a ≠ b → (TJ8 a).2.1 ≠ (TJ8 b).2.1 := by decide +kernel
theorem tyJ8_ok : ∀ k, k < 0 → parseFieldDescriptor (TJ8 k).2.2.1 = some (tyJ8 k) := by decide +kernel
abbrev cJ8_newLength_cabcc : ByteArray := prog_28_method_27_code
def yJ8_newLength_cabcc : MethodName := ⟨RJ8, "newLength", "(III)I"⟩
abbrev cJ8_hugeLength_7cf53 : ByteArray := prog_28_method_28_code
def yJ8_hugeLength_7cf53 : MethodName := ⟨RJ8, "hugeLength", "(II)I"⟩
def RJ3 : String := "jdk/internal/util/Preconditions"
def TJ3 : u_T := fun k => match k with
  | _ => ("", "", "", false)
def tyJ3 : Nat → FieldType := fun k => match k with
  | _ => .int
abbrev wsJ30 : List Cond := u_ws RJ3 TJ3 0
theorem nmJ3 : ∀ a, a < 0 → ∀ b, b < 0 → a ≠ b → (TJ3 a).2.1 ≠ (TJ3 b).2.1 := by decide +kernel
theorem tyJ3_ok : ∀ k, k < 0 → parseFieldDescriptor (TJ3 k).2.2.1 = some (tyJ3 k) := by decide +kernel
abbrev cJ3_checkIndex_8e157 : ByteArray := prog_29_method_11_code
def yJ3_checkIndex_8e157 : MethodName := ⟨RJ3, "checkIndex", "(IILjava/util/function/BiFunction;)I"⟩
def RL : String := "LostParcelsLaw"
abbrev cL_law : ByteArray := code
def yL_law : MethodName := ⟨RL, "law", "([I)Z"⟩
abbrev vwCl : List vw_C := [(RJx4a65c, TJx4a65c, 3), (RX0, TX0, 3), (RX1, TX1, 3), (RX2, TX2, 1), (RX3, TX3, 3), (RX4, TX4, 5), (RX5, TX5, 13), (RX6, TX6, 4), (RX7, TX7, 5), (RX8, TX8, 12), (RX9, TX9, 16), (RX10, TX10, 45)]
