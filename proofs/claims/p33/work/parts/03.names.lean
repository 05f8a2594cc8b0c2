/-! names, fields, decode rows: out of the printed names -/
def RX0 : String := "FairyDust$Child"
def TX0 : u_T := fun k => match k with
  | 0 => ("FairyDust$Child", "wand", "LFairyDust$Wand;", false)
  | 1 => ("FairyDust$Child", "birthday", "I", false)
  | 2 => ("FairyDust$Child", "burst", "I", false)
  | 3 => ("FairyDust$Child", "punishedHours", "I", false)
  | 4 => ("FairyDust$Child", "marks", "I", false)
  | _ => ("FairyDust$Child", "punishment", "I", false)
def tyX0 : Nat → FieldType := fun k => match k with
  | 0 => .object "FairyDust$Wand"
  | 1 => .int
  | 2 => .int
  | 3 => .int
  | 4 => .int
  | _ => .int
theorem nmX0 : ∀ a, a < 6 → ∀ b, b < 6 → a ≠ b → (TX0 a).2.1 ≠ (TX0 b).2.1 := by decide +kernel
theorem tyX0_ok : ∀ k, k < 6 → parseFieldDescriptor (TX0 k).2.2.1 = some (tyX0 k) := by decide +kernel
abbrev cX0_init : ByteArray := prog_2_method_1_code
def yX0_init : MethodName := ⟨RX0, "<init>", "(LFairyDust$Wand;I)V"⟩
abbrev cX0_copyFrom : ByteArray := prog_2_method_2_code
def yX0_copyFrom : MethodName := ⟨RX0, "copyFrom", "(LFairyDust$Child;)V"⟩
abbrev cX0_isPunished : ByteArray := prog_2_method_3_code
def yX0_isPunished : MethodName := ⟨RX0, "isPunished", "()Z"⟩
abbrev cX0_grainsAtHand : ByteArray := prog_2_method_4_code
def yX0_grainsAtHand : MethodName := ⟨RX0, "grainsAtHand", "()I"⟩
abbrev cX0_canHave : ByteArray := prog_2_method_5_code
def yX0_canHave : MethodName := ⟨RX0, "canHave", "(I)Z"⟩
abbrev cX0_dustLeftAfter : ByteArray := prog_2_method_6_code
def yX0_dustLeftAfter : MethodName := ⟨RX0, "dustLeftAfter", "(I)I"⟩
abbrev cX0_makeWish : ByteArray := prog_2_method_7_code
def yX0_makeWish : MethodName := ⟨RX0, "makeWish", "(I)Z"⟩
abbrev cX0_takeGrains : ByteArray := prog_2_method_8_code
def yX0_takeGrains : MethodName := ⟨RX0, "takeGrains", "(I)V"⟩
abbrev cX0_takeMark : ByteArray := prog_2_method_9_code
def yX0_takeMark : MethodName := ⟨RX0, "takeMark", "()V"⟩
abbrev cX0_letOff : ByteArray := prog_2_method_10_code
def yX0_letOff : MethodName := ⟨RX0, "letOff", "()I"⟩
abbrev cX0_liveTo : ByteArray := prog_2_method_11_code
def yX0_liveTo : MethodName := ⟨RX0, "liveTo", "(I)V"⟩
abbrev cX0_beginDay : ByteArray := prog_2_method_12_code
def yX0_beginDay : MethodName := ⟨RX0, "beginDay", "(I)V"⟩
def RX1 : String := "FairyDust$Wand"
def TX1 : u_T := fun k => match k with
  | 0 => ("FairyDust$Wand", "number", "I", false)
  | 1 => ("FairyDust$Wand", "room", "I", false)
  | 2 => ("FairyDust$Wand", "falls", "I", false)
  | _ => ("FairyDust$Wand", "dust", "I", false)
def tyX1 : Nat → FieldType := fun k => match k with
  | 0 => .int
  | 1 => .int
  | 2 => .int
  | _ => .int
theorem nmX1 : ∀ a, a < 4 → ∀ b, b < 4 → a ≠ b → (TX1 a).2.1 ≠ (TX1 b).2.1 := by decide +kernel
theorem tyX1_ok : ∀ k, k < 4 → parseFieldDescriptor (TX1 k).2.2.1 = some (tyX1 k) := by decide +kernel
abbrev cX1_init : ByteArray := prog_3_method_1_code
def yX1_init : MethodName := ⟨RX1, "<init>", "(III)V"⟩
abbrev cX1_copyFrom : ByteArray := prog_3_method_2_code
def yX1_copyFrom : MethodName := ⟨RX1, "copyFrom", "(LFairyDust$Wand;)V"⟩
abbrev cX1_letFall : ByteArray := prog_3_method_3_code
def yX1_letFall : MethodName := ⟨RX1, "letFall", "()I"⟩
abbrev cX1_isFullAfter : ByteArray := prog_3_method_4_code
def yX1_isFullAfter : MethodName := ⟨RX1, "isFullAfter", "(I)Z"⟩
def RX2 : String := "FairyDust"
def TX2 : u_T := fun k => match k with
  | 0 => ("FairyDust", "wands", "Ljava/util/ArrayList;", true)
  | 1 => ("FairyDust", "children", "Ljava/util/ArrayList;", true)
  | 2 => ("FairyDust", "trialWand", "LFairyDust$Wand;", true)
  | 3 => ("FairyDust", "trialChild", "LFairyDust$Child;", true)
  | 4 => ("FairyDust", "hour", "I", false)
  | 5 => ("FairyDust", "granted", "I", false)
  | _ => ("FairyDust", "denied", "I", false)
def tyX2 : Nat → FieldType := fun k => match k with
  | 0 => .object "java/util/ArrayList"
  | 1 => .object "java/util/ArrayList"
  | 2 => .object "FairyDust$Wand"
  | 3 => .object "FairyDust$Child"
  | 4 => .int
  | 5 => .int
  | _ => .int
theorem nmX2 : ∀ a, a < 7 → ∀ b, b < 7 → a ≠ b → (TX2 a).2.1 ≠ (TX2 b).2.1 := by decide +kernel
theorem tyX2_ok : ∀ k, k < 7 → parseFieldDescriptor (TX2 k).2.2.1 = some (tyX2 k) := by decide +kernel
abbrev cX2_init : ByteArray := prog_1_method_1_code
def yX2_init : MethodName := ⟨RX2, "<init>", "()V"⟩
abbrev cX2_addWand : ByteArray := prog_1_method_2_code
def yX2_addWand : MethodName := ⟨RX2, "addWand", "(II)I"⟩
abbrev cX2_addChild : ByteArray := prog_1_method_3_code
def yX2_addChild : MethodName := ⟨RX2, "addChild", "(II)I"⟩
abbrev cX2_give : ByteArray := prog_1_method_4_code
def yX2_give : MethodName := ⟨RX2, "give", "(II)I"⟩
abbrev cX2_setFall : ByteArray := prog_1_method_5_code
def yX2_setFall : MethodName := ⟨RX2, "setFall", "(II)I"⟩
abbrev cX2_wish : ByteArray := prog_1_method_6_code
def yX2_wish : MethodName := ⟨RX2, "wish", "(II)Z"⟩
abbrev cX2_forgive : ByteArray := prog_1_method_7_code
def yX2_forgive : MethodName := ⟨RX2, "forgive", "(I)I"⟩
abbrev cX2_pass : ByteArray := prog_1_method_8_code
def yX2_pass : MethodName := ⟨RX2, "pass", "(I)I"⟩
abbrev cX2_hour : ByteArray := prog_1_method_9_code
def yX2_hour : MethodName := ⟨RX2, "hour", "()I"⟩
abbrev cX2_day : ByteArray := prog_1_method_10_code
def yX2_day : MethodName := ⟨RX2, "day", "()I"⟩
abbrev cX2_wands : ByteArray := prog_1_method_11_code
def yX2_wands : MethodName := ⟨RX2, "wands", "()I"⟩
abbrev cX2_children : ByteArray := prog_1_method_12_code
def yX2_children : MethodName := ⟨RX2, "children", "()I"⟩
abbrev cX2_granted : ByteArray := prog_1_method_13_code
def yX2_granted : MethodName := ⟨RX2, "granted", "()I"⟩
abbrev cX2_denied : ByteArray := prog_1_method_14_code
def yX2_denied : MethodName := ⟨RX2, "denied", "()I"⟩
abbrev cX2_punished : ByteArray := prog_1_method_15_code
def yX2_punished : MethodName := ⟨RX2, "punished", "()I"⟩
abbrev cX2_dustIn : ByteArray := prog_1_method_16_code
def yX2_dustIn : MethodName := ⟨RX2, "dustIn", "(I)I"⟩
abbrev cX2_users : ByteArray := prog_1_method_17_code
def yX2_users : MethodName := ⟨RX2, "users", "(I)I"⟩
abbrev cX2_wandOf : ByteArray := prog_1_method_18_code
def yX2_wandOf : MethodName := ⟨RX2, "wandOf", "(I)I"⟩
abbrev cX2_burstOf : ByteArray := prog_1_method_19_code
def yX2_burstOf : MethodName := ⟨RX2, "burstOf", "(I)I"⟩
abbrev cX2_punishedFor : ByteArray := prog_1_method_20_code
def yX2_punishedFor : MethodName := ⟨RX2, "punishedFor", "(I)I"⟩
abbrev cX2_marksOf : ByteArray := prog_1_method_21_code
def yX2_marksOf : MethodName := ⟨RX2, "marksOf", "(I)I"⟩
abbrev cX2_nextPunishment : ByteArray := prog_1_method_22_code
def yX2_nextPunishment : MethodName := ⟨RX2, "nextPunishment", "(I)I"⟩
abbrev cX2_daysToBirthday : ByteArray := prog_1_method_23_code
def yX2_daysToBirthday : MethodName := ⟨RX2, "daysToBirthday", "(I)I"⟩
abbrev cX2_greatestWish : ByteArray := prog_1_method_24_code
def yX2_greatestWish : MethodName := ⟨RX2, "greatestWish", "(I)I"⟩
abbrev cX2_hoursUntil : ByteArray := prog_1_method_25_code
def yX2_hoursUntil : MethodName := ⟨RX2, "hoursUntil", "(II)I"⟩
abbrev cX2_grantedIn : ByteArray := prog_1_method_26_code
def yX2_grantedIn : MethodName := ⟨RX2, "grantedIn", "(III)I"⟩
abbrev cX2_fallWanted : ByteArray := prog_1_method_27_code
def yX2_fallWanted : MethodName := ⟨RX2, "fallWanted", "(II)I"⟩
abbrev cX2_hoursUntilFull : ByteArray := prog_1_method_28_code
def yX2_hoursUntilFull : MethodName := ⟨RX2, "hoursUntilFull", "(I)I"⟩
abbrev cX2_bestChild : ByteArray := prog_1_method_29_code
def yX2_bestChild : MethodName := ⟨RX2, "bestChild", "(I)I"⟩
abbrev cX2_share : ByteArray := prog_1_method_30_code
def yX2_share : MethodName := ⟨RX2, "share", "()D"⟩
abbrev cX2_digest : ByteArray := prog_1_method_31_code
def yX2_digest : MethodName := ⟨RX2, "digest", "()J"⟩
abbrev cX2_withWand : ByteArray := prog_1_method_32_code
def yX2_withWand : MethodName := ⟨RX2, "withWand", "(JI)J"⟩
abbrev cX2_withChild : ByteArray := prog_1_method_33_code
def yX2_withChild : MethodName := ⟨RX2, "withChild", "(JI)J"⟩
abbrev cX2_mixed : ByteArray := prog_1_method_34_code
def yX2_mixed : MethodName := ⟨RX2, "mixed", "(JI)J"⟩
abbrev cX2_passOneHour : ByteArray := prog_1_method_35_code
def yX2_passOneHour : MethodName := ⟨RX2, "passOneHour", "()I"⟩
abbrev cX2_beginTrial : ByteArray := prog_1_method_36_code
def yX2_beginTrial : MethodName := ⟨RX2, "beginTrial", "(LFairyDust$Child;)V"⟩
abbrev cX2_passTrialHour : ByteArray := prog_1_method_37_code
def yX2_passTrialHour : MethodName := ⟨RX2, "passTrialHour", "(I)V"⟩
abbrev cX2_tryWishes : ByteArray := prog_1_method_38_code
def yX2_tryWishes : MethodName := ⟨RX2, "tryWishes", "(II)I"⟩
abbrev cX2_wandAt : ByteArray := prog_1_method_39_code
def yX2_wandAt : MethodName := ⟨RX2, "wandAt", "(I)LFairyDust$Wand;"⟩
abbrev cX2_childAt : ByteArray := prog_1_method_40_code
def yX2_childAt : MethodName := ⟨RX2, "childAt", "(I)LFairyDust$Child;"⟩
abbrev cX2_needSize : ByteArray := prog_1_method_41_code
def yX2_needSize : MethodName := ⟨RX2, "needSize", "(I)V"⟩
abbrev cX2_needWithin : ByteArray := prog_1_method_42_code
def yX2_needWithin : MethodName := ⟨RX2, "needWithin", "(III)V"⟩
def RX3 : String := "FairyDustLaw$Sim"
def TX3 : u_T := fun k => match k with
  | 0 => ("FairyDustLaw$Sim", "wands", "[[I", false)
  | 1 => ("FairyDustLaw$Sim", "children", "[[I", false)
  | 2 => ("FairyDustLaw$Sim", "hour", "I", false)
  | 3 => ("FairyDustLaw$Sim", "granted", "I", false)
  | _ => ("FairyDustLaw$Sim", "denied", "I", false)
def tyX3 : Nat → FieldType := fun k => match k with
  | 0 => .array (.array .int)
  | 1 => .array (.array .int)
  | 2 => .int
  | 3 => .int
  | _ => .int
theorem nmX3 : ∀ a, a < 5 → ∀ b, b < 5 → a ≠ b → (TX3 a).2.1 ≠ (TX3 b).2.1 := by decide +kernel
theorem tyX3_ok : ∀ k, k < 5 → parseFieldDescriptor (TX3 k).2.2.1 = some (tyX3 k) := by decide +kernel
abbrev cX3_init : ByteArray := prog_5_method_1_code
def yX3_init : MethodName := ⟨RX3, "<init>", "()V"⟩
abbrev cX3_with : ByteArray := prog_5_method_2_code
def yX3_with : MethodName := ⟨RX3, "with", "([[I[I)[[I"⟩
abbrev cX3_isBirthday : ByteArray := prog_5_method_4_code
def yX3_isBirthday : MethodName := ⟨RX3, "isBirthday", "(I)Z"⟩
abbrev cX3_pass : ByteArray := prog_5_method_5_code
def yX3_pass : MethodName := ⟨RX3, "pass", "()I"⟩
abbrev cX3_pass_ : ByteArray := prog_5_method_6_code
def yX3_pass_ : MethodName := ⟨RX3, "pass", "(I)I"⟩
abbrev cX3_can : ByteArray := prog_5_method_7_code
def yX3_can : MethodName := ⟨RX3, "can", "(II)Z"⟩
abbrev cX3_next : ByteArray := prog_5_method_8_code
def yX3_next : MethodName := ⟨RX3, "next", "(I)I"⟩
abbrev cX3_wish : ByteArray := prog_5_method_9_code
def yX3_wish : MethodName := ⟨RX3, "wish", "(II)Z"⟩
abbrev cX3_isSame : ByteArray := prog_5_method_13_code
def yX3_isSame : MethodName := ⟨RX3, "isSame", "(LFairyDust;)Z"⟩
def RX4 : String := "FairyDustModel"
def TX4 : u_T := fun k => match k with
  | _ => ("", "", "", false)
def tyX4 : Nat → FieldType := fun k => match k with
  | _ => .int
theorem nmX4 : ∀ a, a < 0 → ∀ b, b < 0 → a ≠ b → (TX4 a).2.1 ≠ (TX4 b).2.1 := by decide +kernel
theorem tyX4_ok : ∀ k, k < 0 → parseFieldDescriptor (TX4 k).2.2.1 = some (tyX4 k) := by decide +kernel
def RJx145de : String := "java/io/Serializable"
def TJx145de : u_T := fun k => match k with
  | _ => ("", "", "", false)
def tyJx145de : Nat → FieldType := fun k => match k with
  | _ => .int
theorem nmJx145de : ∀ a, a < 0 → ∀ b, b < 0 → a ≠ b → (TJx145de a).2.1 ≠ (TJx145de b).2.1 := by decide +kernel
theorem tyJx145de_ok : ∀ k, k < 0 → parseFieldDescriptor (TJx145de k).2.2.1 = some (tyJx145de k) := by decide +kernel
def RJx8e188 : String := "java/lang/Cloneable"
def TJx8e188 : u_T := fun k => match k with
  | _ => ("", "", "", false)
def tyJx8e188 : Nat → FieldType := fun k => match k with
  | _ => .int
theorem nmJx8e188 : ∀ a, a < 0 → ∀ b, b < 0 → a ≠ b → (TJx8e188 a).2.1 ≠ (TJx8e188 b).2.1 := by decide +kernel
theorem tyJx8e188_ok : ∀ k, k < 0 → parseFieldDescriptor (TJx8e188 k).2.2.1 = some (tyJx8e188 k) := by decide +kernel
def RJxab1ab : String := "java/lang/Iterable"
def TJxab1ab : u_T := fun k => match k with
  | _ => ("", "", "", false)
def tyJxab1ab : Nat → FieldType := fun k => match k with
  | _ => .int
theorem nmJxab1ab : ∀ a, a < 0 → ∀ b, b < 0 → a ≠ b → (TJxab1ab a).2.1 ≠ (TJxab1ab b).2.1 := by decide +kernel
theorem tyJxab1ab_ok : ∀ k, k < 0 → parseFieldDescriptor (TJxab1ab k).2.2.1 = some (tyJxab1ab k) := by decide +kernel
def RJ9 : String := "java/lang/Math"
def TJ9 : u_T := fun k => match k with
  | _ => ("", "", "", false)
def tyJ9 : Nat → FieldType := fun k => match k with
  | _ => .int
theorem nmJ9 : ∀ a, a < 0 → ∀ b, b < 0 → a ≠ b → (TJ9 a).2.1 ≠ (TJ9 b).2.1 := by decide +kernel
theorem tyJ9_ok : ∀ k, k < 0 → parseFieldDescriptor (TJ9 k).2.2.1 = some (tyJ9 k) := by decide +kernel
abbrev cJ9_floorMod_7cf53 : ByteArray := prog_14_method_50_code
def yJ9_floorMod_7cf53 : MethodName := ⟨RJ9, "floorMod", "(II)I"⟩
abbrev cJ9_max_7cf53 : ByteArray := prog_14_method_65_code
def yJ9_max_7cf53 : MethodName := ⟨RJ9, "max", "(II)I"⟩
abbrev cJ9_min_7cf53 : ByteArray := prog_14_method_69_code
def yJ9_min_7cf53 : MethodName := ⟨RJ9, "min", "(II)I"⟩
def RJ0 : String := "java/lang/String"
def TJ0 : u_T := fun k => match k with
  | _ => ("", "", "", false)
def tyJ0 : Nat → FieldType := fun k => match k with
  | _ => .int
theorem nmJ0 : ∀ a, a < 0 → ∀ b, b < 0 → a ≠ b → (TJ0 a).2.1 ≠ (TJ0 b).2.1 := by decide +kernel
theorem tyJ0_ok : ∀ k, k < 0 → parseFieldDescriptor (TJ0 k).2.2.1 = some (tyJ0 k) := by decide +kernel
def RJ10 : String := "java/lang/System"
def TJ10 : u_T := fun k => match k with
  | _ => ("", "", "", false)
def tyJ10 : Nat → FieldType := fun k => match k with
  | _ => .int
theorem nmJ10 : ∀ a, a < 0 → ∀ b, b < 0 → a ≠ b → (TJ10 a).2.1 ≠ (TJ10 b).2.1 := by decide +kernel
theorem tyJ10_ok : ∀ k, k < 0 → parseFieldDescriptor (TJ10 k).2.2.1 = some (tyJ10 k) := by decide +kernel
def RJxa1e45 : String := "java/util/AbstractCollection"
def TJxa1e45 : u_T := fun k => match k with
  | _ => ("", "", "", false)
def tyJxa1e45 : Nat → FieldType := fun k => match k with
  | _ => .int
theorem nmJxa1e45 : ∀ a, a < 0 → ∀ b, b < 0 → a ≠ b → (TJxa1e45 a).2.1 ≠ (TJxa1e45 b).2.1 := by decide +kernel
theorem tyJxa1e45_ok : ∀ k, k < 0 → parseFieldDescriptor (TJxa1e45 k).2.2.1 = some (tyJxa1e45 k) := by decide +kernel
abbrev cJxa1e45_init_da8c8 : ByteArray := prog_19_method_1_code
def yJxa1e45_init_da8c8 : MethodName := ⟨RJxa1e45, "<init>", "()V"⟩
def RJxc12de : String := "java/util/AbstractList"
def TJxc12de : u_T := fun k => match k with
  | _ => ("", "", "", false)
def tyJxc12de : Nat → FieldType := fun k => match k with
  | _ => .int
theorem nmJxc12de : ∀ a, a < 0 → ∀ b, b < 0 → a ≠ b → (TJxc12de a).2.1 ≠ (TJxc12de b).2.1 := by decide +kernel
theorem tyJxc12de_ok : ∀ k, k < 0 → parseFieldDescriptor (TJxc12de k).2.2.1 = some (tyJxc12de k) := by decide +kernel
abbrev cJxc12de_init_da8c8 : ByteArray := prog_20_method_1_code
def yJxc12de_init_da8c8 : MethodName := ⟨RJxc12de, "<init>", "()V"⟩
def RJx4a65c : String := "java/util/ArrayList"
def TJx4a65c : u_T := fun k => match k with
  | 0 => ("java/util/AbstractList", "modCount", "I", false)
  | 1 => ("java/util/ArrayList", "elementData", "[Ljava/lang/Object;", false)
  | _ => ("java/util/ArrayList", "size", "I", false)
def tyJx4a65c : Nat → FieldType := fun k => match k with
  | 0 => .int
  | 1 => .array (.object "java/lang/Object")
  | _ => .int
theorem nmJx4a65c : ∀ a, a < 3 → ∀ b, b < 3 → a ≠ b → (TJx4a65c a).2.1 ≠ (TJx4a65c b).2.1 := by decide +kernel
theorem tyJx4a65c_ok : ∀ k, k < 3 → parseFieldDescriptor (TJx4a65c k).2.2.1 = some (tyJx4a65c k) := by decide +kernel
abbrev cJx4a65c_init_da8c8 : ByteArray := prog_21_method_2_code
def yJx4a65c_init_da8c8 : MethodName := ⟨RJx4a65c, "<init>", "()V"⟩
abbrev cJx4a65c_grow_92f84 : ByteArray := prog_21_method_6_code
def yJx4a65c_grow_92f84 : MethodName := ⟨RJx4a65c, "grow", "(I)[Ljava/lang/Object;"⟩
abbrev cJx4a65c_grow_d5877 : ByteArray := prog_21_method_7_code
def yJx4a65c_grow_d5877 : MethodName := ⟨RJx4a65c, "grow", "()[Ljava/lang/Object;"⟩
abbrev cJx4a65c_size_8abf5 : ByteArray := prog_21_method_8_code
def yJx4a65c_size_8abf5 : MethodName := ⟨RJx4a65c, "size", "()I"⟩
abbrev cJx4a65c_elementData_915e3 : ByteArray := prog_21_method_18_code
def yJx4a65c_elementData_915e3 : MethodName := ⟨RJx4a65c, "elementData", "(I)Ljava/lang/Object;"⟩
abbrev cJx4a65c_get_915e3 : ByteArray := prog_21_method_20_code
def yJx4a65c_get_915e3 : MethodName := ⟨RJx4a65c, "get", "(I)Ljava/lang/Object;"⟩
abbrev cJx4a65c_add_72be8 : ByteArray := prog_21_method_24_code
def yJx4a65c_add_72be8 : MethodName := ⟨RJx4a65c, "add", "(Ljava/lang/Object;[Ljava/lang/Object;I)V"⟩
abbrev cJx4a65c_add_9ea2d : ByteArray := prog_21_method_25_code
def yJx4a65c_add_9ea2d : MethodName := ⟨RJx4a65c, "add", "(Ljava/lang/Object;)Z"⟩
def RJ7 : String := "java/util/Arrays"
def TJ7 : u_T := fun k => match k with
  | _ => ("", "", "", false)
def tyJ7 : Nat → FieldType := fun k => match k with
  | _ => .int
theorem nmJ7 : ∀ a, a < 0 → ∀ b, b < 0 → a ≠ b → (TJ7 a).2.1 ≠ (TJ7 b).2.1 := by decide +kernel
theorem tyJ7_ok : ∀ k, k < 0 → parseFieldDescriptor (TJ7 k).2.2.1 = some (tyJ7 k) := by decide +kernel
abbrev cJ7_copyOf_1904c : ByteArray := prog_22_method_119_code
def yJ7_copyOf_1904c : MethodName := ⟨RJ7, "copyOf", "([Ljava/lang/Object;I)[Ljava/lang/Object;"⟩
abbrev cJ7_copyOf_6403c : ByteArray := prog_22_method_120_code
def yJ7_copyOf_6403c : MethodName := ⟨RJ7, "copyOf", "([Ljava/lang/Object;ILjava/lang/Class;)[Ljava/lang/Object;"⟩
def RJx5ef63 : String := "java/util/Collection"
def TJx5ef63 : u_T := fun k => match k with
  | _ => ("", "", "", false)
def tyJx5ef63 : Nat → FieldType := fun k => match k with
  | _ => .int
theorem nmJx5ef63 : ∀ a, a < 0 → ∀ b, b < 0 → a ≠ b → (TJx5ef63 a).2.1 ≠ (TJx5ef63 b).2.1 := by decide +kernel
theorem tyJx5ef63_ok : ∀ k, k < 0 → parseFieldDescriptor (TJx5ef63 k).2.2.1 = some (tyJx5ef63 k) := by decide +kernel
def RJxbd725 : String := "java/util/List"
def TJxbd725 : u_T := fun k => match k with
  | _ => ("", "", "", false)
def tyJxbd725 : Nat → FieldType := fun k => match k with
  | _ => .int
theorem nmJxbd725 : ∀ a, a < 0 → ∀ b, b < 0 → a ≠ b → (TJxbd725 a).2.1 ≠ (TJxbd725 b).2.1 := by decide +kernel
theorem tyJxbd725_ok : ∀ k, k < 0 → parseFieldDescriptor (TJxbd725 k).2.2.1 = some (tyJxbd725 k) := by decide +kernel
def RJ15 : String := "java/util/Objects"
def TJ15 : u_T := fun k => match k with
  | _ => ("", "", "", false)
def tyJ15 : Nat → FieldType := fun k => match k with
  | _ => .int
theorem nmJ15 : ∀ a, a < 0 → ∀ b, b < 0 → a ≠ b → (TJ15 a).2.1 ≠ (TJ15 b).2.1 := by decide +kernel
theorem tyJ15_ok : ∀ k, k < 0 → parseFieldDescriptor (TJ15 k).2.2.1 = some (tyJ15 k) := by decide +kernel
abbrev cJ15_checkIndex_7cf53 : ByteArray := prog_25_method_17_code
def yJ15_checkIndex_7cf53 : MethodName := ⟨RJ15, "checkIndex", "(II)I"⟩
def RJxf0a74 : String := "java/util/RandomAccess"
def TJxf0a74 : u_T := fun k => match k with
  | _ => ("", "", "", false)
def tyJxf0a74 : Nat → FieldType := fun k => match k with
  | _ => .int
theorem nmJxf0a74 : ∀ a, a < 0 → ∀ b, b < 0 → a ≠ b → (TJxf0a74 a).2.1 ≠ (TJxf0a74 b).2.1 := by decide +kernel
theorem tyJxf0a74_ok : ∀ k, k < 0 → parseFieldDescriptor (TJxf0a74 k).2.2.1 = some (tyJxf0a74 k) := by decide +kernel
def RJxa66e6 : String := "java/util/SequencedCollection"
def TJxa66e6 : u_T := fun k => match k with
  | _ => ("", "", "", false)
def tyJxa66e6 : Nat → FieldType := fun k => match k with
  | _ => .int
theorem nmJxa66e6 : ∀ a, a < 0 → ∀ b, b < 0 → a ≠ b → (TJxa66e6 a).2.1 ≠ (TJxa66e6 b).2.1 := by decide +kernel
theorem tyJxa66e6_ok : ∀ k, k < 0 → parseFieldDescriptor (TJxa66e6 k).2.2.1 = some (tyJxa66e6 k) := by decide +kernel
def RJ8 : String := "jdk/internal/util/ArraysSupport"
def TJ8 : u_T := fun k => match k with
  | _ => ("", "", "", false)
def tyJ8 : Nat → FieldType := fun k => match k with
  | _ => .int
theorem nmJ8 : ∀ a, a < 0 → ∀ b, b < 0 → a ≠ b → (TJ8 a).2.1 ≠ (TJ8 b).2.1 := by decide +kernel
theorem tyJ8_ok : ∀ k, k < 0 → parseFieldDescriptor (TJ8 k).2.2.1 = some (tyJ8 k) := by decide +kernel
abbrev cJ8_newLength_cabcc : ByteArray := prog_28_method_27_code
def yJ8_newLength_cabcc : MethodName := ⟨RJ8, "newLength", "(III)I"⟩
abbrev cJ8_hugeLength_7cf53 : ByteArray := prog_28_method_28_code
def yJ8_hugeLength_7cf53 : MethodName := ⟨RJ8, "hugeLength", "(II)I"⟩
def RJ3 : String := "jdk/internal/util/Preconditions"
def TJ3 : u_T := fun k => match k with
  | _ => ("", "", "", false)
def tyJ3 : Nat → FieldType := fun k => match k with
  | _ => .int
theorem nmJ3 : ∀ a, a < 0 → ∀ b, b < 0 → a ≠ b → (TJ3 a).2.1 ≠ (TJ3 b).2.1 := by decide +kernel
theorem tyJ3_ok : ∀ k, k < 0 → parseFieldDescriptor (TJ3 k).2.2.1 = some (tyJ3 k) := by decide +kernel
abbrev cJ3_checkIndex_8e157 : ByteArray := prog_29_method_11_code
def yJ3_checkIndex_8e157 : MethodName := ⟨RJ3, "checkIndex", "(IILjava/util/function/BiFunction;)I"⟩
def RL : String := "FairyDustLaw"
abbrev cL_below : ByteArray := method_2_code
def yL_below : MethodName := ⟨RL, "below", "(II)I"⟩
abbrev cL_cell : ByteArray := method_3_code
def yL_cell : MethodName := ⟨RL, "cell", "([II)I"⟩
abbrev cL_act : ByteArray := method_4_code
def yL_act : MethodName := ⟨RL, "act", "(LFairyDust;LFairyDustLaw$Sim;I)Z"⟩
abbrev cL_build : ByteArray := method_5_code
def yL_build : MethodName := ⟨RL, "build", "(LFairyDust;[I)LFairyDustLaw$Sim;"⟩
abbrev cL_law : ByteArray := code
def yL_law : MethodName := ⟨RL, "law", "([I)Z"⟩
abbrev vwCl : List vw_C := [(RJx4a65c, TJx4a65c, 3), (RX0, TX0, 6), (RX1, TX1, 4), (RX2, TX2, 7), (RX3, TX3, 5)]
theorem dX0_init_0 : decode cX0_init 0 = .ok (.aload_n 0, 1) := by decide +kernel
theorem dX0_init_1 : decode cX0_init 1 = .ok (.invokespecial 3, 3) := by decide +kernel
theorem dX0_init_4 : decode cX0_init 4 = .ok (.aload_n 0, 1) := by decide +kernel
theorem dX0_init_5 : decode cX0_init 5 = .ok (.aload_n 1, 1) := by decide +kernel
theorem dX0_init_6 : decode cX0_init 6 = .ok (.putfield 9, 3) := by decide +kernel
theorem dX0_init_9 : decode cX0_init 9 = .ok (.aload_n 0, 1) := by decide +kernel
theorem dX0_init_10 : decode cX0_init 10 = .ok (.iload_n 2, 1) := by decide +kernel
theorem dX0_init_11 : decode cX0_init 11 = .ok (.putfield 15, 3) := by decide +kernel
theorem dX0_init_14 : decode cX0_init 14 = .ok (.aload_n 0, 1) := by decide +kernel
theorem dX0_init_15 : decode cX0_init 15 = .ok (.iconst 4, 1) := by decide +kernel
theorem dX0_init_16 : decode cX0_init 16 = .ok (.putfield 19, 3) := by decide +kernel
theorem dX0_init_19 : decode cX0_init 19 = .ok (.return_, 1) := by decide +kernel
theorem dX0_copyFrom_0 : decode cX0_copyFrom 0 = .ok (.aload_n 0, 1) := by decide +kernel
theorem dX0_copyFrom_1 : decode cX0_copyFrom 1 = .ok (.aload_n 1, 1) := by decide +kernel
theorem dX0_copyFrom_2 : decode cX0_copyFrom 2 = .ok (.getfield 15, 3) := by decide +kernel
theorem dX0_copyFrom_5 : decode cX0_copyFrom 5 = .ok (.putfield 15, 3) := by decide +kernel
theorem dX0_copyFrom_8 : decode cX0_copyFrom 8 = .ok (.aload_n 0, 1) := by decide +kernel
theorem dX0_copyFrom_9 : decode cX0_copyFrom 9 = .ok (.aload_n 1, 1) := by decide +kernel
theorem dX0_copyFrom_10 : decode cX0_copyFrom 10 = .ok (.getfield 22, 3) := by decide +kernel
theorem dX0_copyFrom_13 : decode cX0_copyFrom 13 = .ok (.putfield 22, 3) := by decide +kernel
theorem dX0_copyFrom_16 : decode cX0_copyFrom 16 = .ok (.aload_n 0, 1) := by decide +kernel
theorem dX0_copyFrom_17 : decode cX0_copyFrom 17 = .ok (.aload_n 1, 1) := by decide +kernel
theorem dX0_copyFrom_18 : decode cX0_copyFrom 18 = .ok (.getfield 25, 3) := by decide +kernel
theorem dX0_copyFrom_21 : decode cX0_copyFrom 21 = .ok (.putfield 25, 3) := by decide +kernel
theorem dX0_copyFrom_24 : decode cX0_copyFrom 24 = .ok (.aload_n 0, 1) := by decide +kernel
theorem dX0_copyFrom_25 : decode cX0_copyFrom 25 = .ok (.aload_n 1, 1) := by decide +kernel
theorem dX0_copyFrom_26 : decode cX0_copyFrom 26 = .ok (.getfield 28, 3) := by decide +kernel
theorem dX0_copyFrom_29 : decode cX0_copyFrom 29 = .ok (.putfield 28, 3) := by decide +kernel
theorem dX0_copyFrom_32 : decode cX0_copyFrom 32 = .ok (.aload_n 0, 1) := by decide +kernel
theorem dX0_copyFrom_33 : decode cX0_copyFrom 33 = .ok (.aload_n 1, 1) := by decide +kernel
theorem dX0_copyFrom_34 : decode cX0_copyFrom 34 = .ok (.getfield 19, 3) := by decide +kernel
theorem dX0_copyFrom_37 : decode cX0_copyFrom 37 = .ok (.putfield 19, 3) := by decide +kernel
theorem dX0_copyFrom_40 : decode cX0_copyFrom 40 = .ok (.return_, 1) := by decide +kernel
theorem dX0_isPunished_0 : decode cX0_isPunished 0 = .ok (.aload_n 0, 1) := by decide +kernel
theorem dX0_isPunished_1 : decode cX0_isPunished 1 = .ok (.getfield 25, 3) := by decide +kernel
theorem dX0_isPunished_4 : decode cX0_isPunished 4 = .ok (.ifCond .le 7, 3) := by decide +kernel
theorem dX0_isPunished_7 : decode cX0_isPunished 7 = .ok (.iconst 1, 1) := by decide +kernel
theorem dX0_isPunished_8 : decode cX0_isPunished 8 = .ok (.goto 4, 3) := by decide +kernel
theorem dX0_isPunished_11 : decode cX0_isPunished 11 = .ok (.iconst 0, 1) := by decide +kernel
theorem dX0_isPunished_12 : decode cX0_isPunished 12 = .ok (.ireturn, 1) := by decide +kernel
theorem dX0_grainsAtHand_0 : decode cX0_grainsAtHand 0 = .ok (.aload_n 0, 1) := by decide +kernel
theorem dX0_grainsAtHand_1 : decode cX0_grainsAtHand 1 = .ok (.invokevirtual 31, 3) := by decide +kernel
theorem dX0_grainsAtHand_4 : decode cX0_grainsAtHand 4 = .ok (.ifCond .eq 7, 3) := by decide +kernel
theorem dX0_grainsAtHand_7 : decode cX0_grainsAtHand 7 = .ok (.iconst 0, 1) := by decide +kernel
theorem dX0_grainsAtHand_8 : decode cX0_grainsAtHand 8 = .ok (.goto 15, 3) := by decide +kernel
theorem dX0_grainsAtHand_11 : decode cX0_grainsAtHand 11 = .ok (.aload_n 0, 1) := by decide +kernel
theorem dX0_grainsAtHand_12 : decode cX0_grainsAtHand 12 = .ok (.getfield 22, 3) := by decide +kernel
theorem dX0_grainsAtHand_15 : decode cX0_grainsAtHand 15 = .ok (.aload_n 0, 1) := by decide +kernel
theorem dX0_grainsAtHand_16 : decode cX0_grainsAtHand 16 = .ok (.getfield 9, 3) := by decide +kernel
theorem dX0_grainsAtHand_19 : decode cX0_grainsAtHand 19 = .ok (.getfield 35, 3) := by decide +kernel
theorem dX0_grainsAtHand_22 : decode cX0_grainsAtHand 22 = .ok (.iadd, 1) := by decide +kernel
theorem dX0_grainsAtHand_23 : decode cX0_grainsAtHand 23 = .ok (.ireturn, 1) := by decide +kernel
theorem dX0_canHave_0 : decode cX0_canHave 0 = .ok (.aload_n 0, 1) := by decide +kernel
theorem dX0_canHave_1 : decode cX0_canHave 1 = .ok (.invokevirtual 40, 3) := by decide +kernel
theorem dX0_canHave_4 : decode cX0_canHave 4 = .ok (.iload_n 1, 1) := by decide +kernel
theorem dX0_canHave_5 : decode cX0_canHave 5 = .ok (.if_icmp .lt 7, 3) := by decide +kernel
theorem dX0_canHave_8 : decode cX0_canHave 8 = .ok (.iconst 1, 1) := by decide +kernel
theorem dX0_canHave_9 : decode cX0_canHave 9 = .ok (.goto 4, 3) := by decide +kernel
theorem dX0_canHave_12 : decode cX0_canHave 12 = .ok (.iconst 0, 1) := by decide +kernel
theorem dX0_canHave_13 : decode cX0_canHave 13 = .ok (.ireturn, 1) := by decide +kernel
theorem dX0_dustLeftAfter_0 : decode cX0_dustLeftAfter 0 = .ok (.aload_n 0, 1) := by decide +kernel
theorem dX0_dustLeftAfter_1 : decode cX0_dustLeftAfter 1 = .ok (.getfield 9, 3) := by decide +kernel
theorem dX0_dustLeftAfter_4 : decode cX0_dustLeftAfter 4 = .ok (.getfield 35, 3) := by decide +kernel
theorem dX0_dustLeftAfter_7 : decode cX0_dustLeftAfter 7 = .ok (.iconst 0, 1) := by decide +kernel
theorem dX0_dustLeftAfter_8 : decode cX0_dustLeftAfter 8 = .ok (.iload_n 1, 1) := by decide +kernel
theorem dX0_dustLeftAfter_9 : decode cX0_dustLeftAfter 9 = .ok (.aload_n 0, 1) := by decide +kernel
theorem dX0_dustLeftAfter_10 : decode cX0_dustLeftAfter 10 = .ok (.getfield 22, 3) := by decide +kernel
theorem dX0_dustLeftAfter_13 : decode cX0_dustLeftAfter 13 = .ok (.isub, 1) := by decide +kernel
theorem dX0_dustLeftAfter_14 : decode cX0_dustLeftAfter 14 = .ok (.invokestatic 44, 3) := by decide +kernel
theorem dX0_dustLeftAfter_17 : decode cX0_dustLeftAfter 17 = .ok (.isub, 1) := by decide +kernel
theorem dX0_dustLeftAfter_18 : decode cX0_dustLeftAfter 18 = .ok (.ireturn, 1) := by decide +kernel
theorem dX0_makeWish_0 : decode cX0_makeWish 0 = .ok (.aload_n 0, 1) := by decide +kernel
theorem dX0_makeWish_1 : decode cX0_makeWish 1 = .ok (.iload_n 1, 1) := by decide +kernel
theorem dX0_makeWish_2 : decode cX0_makeWish 2 = .ok (.invokevirtual 50, 3) := by decide +kernel
theorem dX0_makeWish_5 : decode cX0_makeWish 5 = .ok (.ifCond .eq 24, 3) := by decide +kernel
theorem dX0_makeWish_8 : decode cX0_makeWish 8 = .ok (.aload_n 0, 1) := by decide +kernel
theorem dX0_makeWish_9 : decode cX0_makeWish 9 = .ok (.iload_n 1, 1) := by decide +kernel
theorem dX0_makeWish_10 : decode cX0_makeWish 10 = .ok (.invokevirtual 54, 3) := by decide +kernel
theorem dX0_makeWish_13 : decode cX0_makeWish 13 = .ok (.aload_n 0, 1) := by decide +kernel
theorem dX0_makeWish_14 : decode cX0_makeWish 14 = .ok (.iconst 0, 1) := by decide +kernel
theorem dX0_makeWish_15 : decode cX0_makeWish 15 = .ok (.aload_n 0, 1) := by decide +kernel
theorem dX0_makeWish_16 : decode cX0_makeWish 16 = .ok (.getfield 28, 3) := by decide +kernel
theorem dX0_makeWish_19 : decode cX0_makeWish 19 = .ok (.iconst 1, 1) := by decide +kernel
theorem dX0_makeWish_20 : decode cX0_makeWish 20 = .ok (.isub, 1) := by decide +kernel
theorem dX0_makeWish_21 : decode cX0_makeWish 21 = .ok (.invokestatic 44, 3) := by decide +kernel
theorem dX0_makeWish_24 : decode cX0_makeWish 24 = .ok (.putfield 28, 3) := by decide +kernel
theorem dX0_makeWish_27 : decode cX0_makeWish 27 = .ok (.iconst 1, 1) := by decide +kernel
theorem dX0_makeWish_28 : decode cX0_makeWish 28 = .ok (.ireturn, 1) := by decide +kernel
theorem dX0_makeWish_29 : decode cX0_makeWish 29 = .ok (.aload_n 0, 1) := by decide +kernel
theorem dX0_makeWish_30 : decode cX0_makeWish 30 = .ok (.invokevirtual 31, 3) := by decide +kernel
theorem dX0_makeWish_33 : decode cX0_makeWish 33 = .ok (.ifCond .eq 21, 3) := by decide +kernel
theorem dX0_makeWish_36 : decode cX0_makeWish 36 = .ok (.aload_n 0, 1) := by decide +kernel
theorem dX0_makeWish_37 : decode cX0_makeWish 37 = .ok (.bipush 48, 2) := by decide +kernel
theorem dX0_makeWish_39 : decode cX0_makeWish 39 = .ok (.aload_n 0, 1) := by decide +kernel
theorem dX0_makeWish_40 : decode cX0_makeWish 40 = .ok (.getfield 25, 3) := by decide +kernel
theorem dX0_makeWish_43 : decode cX0_makeWish 43 = .ok (.iconst 1, 1) := by decide +kernel
theorem dX0_makeWish_44 : decode cX0_makeWish 44 = .ok (.iadd, 1) := by decide +kernel
theorem dX0_makeWish_45 : decode cX0_makeWish 45 = .ok (.invokestatic 58, 3) := by decide +kernel
theorem dX0_makeWish_48 : decode cX0_makeWish 48 = .ok (.putfield 25, 3) := by decide +kernel
theorem dX0_makeWish_51 : decode cX0_makeWish 51 = .ok (.goto 7, 3) := by decide +kernel
theorem dX0_makeWish_54 : decode cX0_makeWish 54 = .ok (.aload_n 0, 1) := by decide +kernel
theorem dX0_makeWish_55 : decode cX0_makeWish 55 = .ok (.invokevirtual 61, 3) := by decide +kernel
theorem dX0_makeWish_58 : decode cX0_makeWish 58 = .ok (.iconst 0, 1) := by decide +kernel
theorem dX0_makeWish_59 : decode cX0_makeWish 59 = .ok (.ireturn, 1) := by decide +kernel
theorem dX0_takeGrains_0 : decode cX0_takeGrains 0 = .ok (.aload_n 0, 1) := by decide +kernel
theorem dX0_takeGrains_1 : decode cX0_takeGrains 1 = .ok (.iload_n 1, 1) := by decide +kernel
theorem dX0_takeGrains_2 : decode cX0_takeGrains 2 = .ok (.invokevirtual 64, 3) := by decide +kernel
theorem dX0_takeGrains_5 : decode cX0_takeGrains 5 = .ok (.istore_n 2, 1) := by decide +kernel
theorem dX0_takeGrains_6 : decode cX0_takeGrains 6 = .ok (.aload_n 0, 1) := by decide +kernel
theorem dX0_takeGrains_7 : decode cX0_takeGrains 7 = .ok (.iconst 0, 1) := by decide +kernel
theorem dX0_takeGrains_8 : decode cX0_takeGrains 8 = .ok (.aload_n 0, 1) := by decide +kernel
theorem dX0_takeGrains_9 : decode cX0_takeGrains 9 = .ok (.getfield 22, 3) := by decide +kernel
theorem dX0_takeGrains_12 : decode cX0_takeGrains 12 = .ok (.iload_n 1, 1) := by decide +kernel
theorem dX0_takeGrains_13 : decode cX0_takeGrains 13 = .ok (.isub, 1) := by decide +kernel
theorem dX0_takeGrains_14 : decode cX0_takeGrains 14 = .ok (.invokestatic 44, 3) := by decide +kernel
theorem dX0_takeGrains_17 : decode cX0_takeGrains 17 = .ok (.putfield 22, 3) := by decide +kernel
theorem dX0_takeGrains_20 : decode cX0_takeGrains 20 = .ok (.aload_n 0, 1) := by decide +kernel
theorem dX0_takeGrains_21 : decode cX0_takeGrains 21 = .ok (.getfield 9, 3) := by decide +kernel
theorem dX0_takeGrains_24 : decode cX0_takeGrains 24 = .ok (.iload_n 2, 1) := by decide +kernel
theorem dX0_takeGrains_25 : decode cX0_takeGrains 25 = .ok (.putfield 35, 3) := by decide +kernel
theorem dX0_takeGrains_28 : decode cX0_takeGrains 28 = .ok (.return_, 1) := by decide +kernel
theorem dX0_takeMark_0 : decode cX0_takeMark 0 = .ok (.aload_n 0, 1) := by decide +kernel
theorem dX0_takeMark_1 : decode cX0_takeMark 1 = .ok (.dup, 1) := by decide +kernel
theorem dX0_takeMark_2 : decode cX0_takeMark 2 = .ok (.getfield 28, 3) := by decide +kernel
theorem dX0_takeMark_5 : decode cX0_takeMark 5 = .ok (.iconst 1, 1) := by decide +kernel
theorem dX0_takeMark_6 : decode cX0_takeMark 6 = .ok (.iadd, 1) := by decide +kernel
theorem dX0_takeMark_7 : decode cX0_takeMark 7 = .ok (.putfield 28, 3) := by decide +kernel
theorem dX0_takeMark_10 : decode cX0_takeMark 10 = .ok (.aload_n 0, 1) := by decide +kernel
theorem dX0_takeMark_11 : decode cX0_takeMark 11 = .ok (.getfield 28, 3) := by decide +kernel
theorem dX0_takeMark_14 : decode cX0_takeMark 14 = .ok (.iconst 3, 1) := by decide +kernel
theorem dX0_takeMark_15 : decode cX0_takeMark 15 = .ok (.if_icmp .lt 31, 3) := by decide +kernel
theorem dX0_takeMark_18 : decode cX0_takeMark 18 = .ok (.aload_n 0, 1) := by decide +kernel
theorem dX0_takeMark_19 : decode cX0_takeMark 19 = .ok (.aload_n 0, 1) := by decide +kernel
theorem dX0_takeMark_20 : decode cX0_takeMark 20 = .ok (.getfield 19, 3) := by decide +kernel
theorem dX0_takeMark_23 : decode cX0_takeMark 23 = .ok (.putfield 25, 3) := by decide +kernel
theorem dX0_takeMark_26 : decode cX0_takeMark 26 = .ok (.aload_n 0, 1) := by decide +kernel
theorem dX0_takeMark_27 : decode cX0_takeMark 27 = .ok (.bipush 32, 2) := by decide +kernel
theorem dX0_takeMark_29 : decode cX0_takeMark 29 = .ok (.aload_n 0, 1) := by decide +kernel
theorem dX0_takeMark_30 : decode cX0_takeMark 30 = .ok (.getfield 19, 3) := by decide +kernel
theorem dX0_takeMark_33 : decode cX0_takeMark 33 = .ok (.iconst 2, 1) := by decide +kernel
theorem dX0_takeMark_34 : decode cX0_takeMark 34 = .ok (.imul, 1) := by decide +kernel
theorem dX0_takeMark_35 : decode cX0_takeMark 35 = .ok (.invokestatic 58, 3) := by decide +kernel
theorem dX0_takeMark_38 : decode cX0_takeMark 38 = .ok (.putfield 19, 3) := by decide +kernel
theorem dX0_takeMark_41 : decode cX0_takeMark 41 = .ok (.aload_n 0, 1) := by decide +kernel
theorem dX0_takeMark_42 : decode cX0_takeMark 42 = .ok (.iconst 0, 1) := by decide +kernel
theorem dX0_takeMark_43 : decode cX0_takeMark 43 = .ok (.putfield 28, 3) := by decide +kernel
theorem dX0_takeMark_46 : decode cX0_takeMark 46 = .ok (.return_, 1) := by decide +kernel
theorem dX0_letOff_0 : decode cX0_letOff 0 = .ok (.aload_n 0, 1) := by decide +kernel
theorem dX0_letOff_1 : decode cX0_letOff 1 = .ok (.getfield 25, 3) := by decide +kernel
theorem dX0_letOff_4 : decode cX0_letOff 4 = .ok (.istore_n 1, 1) := by decide +kernel
theorem dX0_letOff_5 : decode cX0_letOff 5 = .ok (.aload_n 0, 1) := by decide +kernel
theorem dX0_letOff_6 : decode cX0_letOff 6 = .ok (.iconst 0, 1) := by decide +kernel
theorem dX0_letOff_7 : decode cX0_letOff 7 = .ok (.putfield 25, 3) := by decide +kernel
theorem dX0_letOff_10 : decode cX0_letOff 10 = .ok (.aload_n 0, 1) := by decide +kernel
theorem dX0_letOff_11 : decode cX0_letOff 11 = .ok (.iconst 0, 1) := by decide +kernel
theorem dX0_letOff_12 : decode cX0_letOff 12 = .ok (.putfield 28, 3) := by decide +kernel
theorem dX0_letOff_15 : decode cX0_letOff 15 = .ok (.iload_n 1, 1) := by decide +kernel
theorem dX0_letOff_16 : decode cX0_letOff 16 = .ok (.ireturn, 1) := by decide +kernel
theorem dX0_liveTo_0 : decode cX0_liveTo 0 = .ok (.aload_n 0, 1) := by decide +kernel
theorem dX0_liveTo_1 : decode cX0_liveTo 1 = .ok (.iconst 0, 1) := by decide +kernel
theorem dX0_liveTo_2 : decode cX0_liveTo 2 = .ok (.aload_n 0, 1) := by decide +kernel
theorem dX0_liveTo_3 : decode cX0_liveTo 3 = .ok (.getfield 25, 3) := by decide +kernel
theorem dX0_liveTo_6 : decode cX0_liveTo 6 = .ok (.iconst 1, 1) := by decide +kernel
theorem dX0_liveTo_7 : decode cX0_liveTo 7 = .ok (.isub, 1) := by decide +kernel
theorem dX0_liveTo_8 : decode cX0_liveTo 8 = .ok (.invokestatic 44, 3) := by decide +kernel
theorem dX0_liveTo_11 : decode cX0_liveTo 11 = .ok (.putfield 25, 3) := by decide +kernel
theorem dX0_liveTo_14 : decode cX0_liveTo 14 = .ok (.iload_n 1, 1) := by decide +kernel
theorem dX0_liveTo_15 : decode cX0_liveTo 15 = .ok (.bipush 24, 2) := by decide +kernel
theorem dX0_liveTo_17 : decode cX0_liveTo 17 = .ok (.irem, 1) := by decide +kernel
theorem dX0_liveTo_18 : decode cX0_liveTo 18 = .ok (.ifCond .ne 11, 3) := by decide +kernel
theorem dX0_liveTo_21 : decode cX0_liveTo 21 = .ok (.aload_n 0, 1) := by decide +kernel
theorem dX0_liveTo_22 : decode cX0_liveTo 22 = .ok (.iload_n 1, 1) := by decide +kernel
theorem dX0_liveTo_23 : decode cX0_liveTo 23 = .ok (.bipush 24, 2) := by decide +kernel
theorem dX0_liveTo_25 : decode cX0_liveTo 25 = .ok (.idiv, 1) := by decide +kernel
theorem dX0_liveTo_26 : decode cX0_liveTo 26 = .ok (.invokevirtual 68, 3) := by decide +kernel
theorem dX0_liveTo_29 : decode cX0_liveTo 29 = .ok (.return_, 1) := by decide +kernel
theorem dX0_beginDay_0 : decode cX0_beginDay 0 = .ok (.aload_n 0, 1) := by decide +kernel
theorem dX0_beginDay_1 : decode cX0_beginDay 1 = .ok (.iload_n 1, 1) := by decide +kernel
theorem dX0_beginDay_2 : decode cX0_beginDay 2 = .ok (.bipush 30, 2) := by decide +kernel
theorem dX0_beginDay_4 : decode cX0_beginDay 4 = .ok (.irem, 1) := by decide +kernel
theorem dX0_beginDay_5 : decode cX0_beginDay 5 = .ok (.aload_n 0, 1) := by decide +kernel
theorem dX0_beginDay_6 : decode cX0_beginDay 6 = .ok (.getfield 15, 3) := by decide +kernel
theorem dX0_beginDay_9 : decode cX0_beginDay 9 = .ok (.if_icmp .ne 8, 3) := by decide +kernel
theorem dX0_beginDay_12 : decode cX0_beginDay 12 = .ok (.bipush 12, 2) := by decide +kernel
theorem dX0_beginDay_14 : decode cX0_beginDay 14 = .ok (.goto 4, 3) := by decide +kernel
theorem dX0_beginDay_17 : decode cX0_beginDay 17 = .ok (.iconst 0, 1) := by decide +kernel
theorem dX0_beginDay_18 : decode cX0_beginDay 18 = .ok (.putfield 22, 3) := by decide +kernel
theorem dX0_beginDay_21 : decode cX0_beginDay 21 = .ok (.return_, 1) := by decide +kernel
theorem dX1_init_0 : decode cX1_init 0 = .ok (.aload_n 0, 1) := by decide +kernel
theorem dX1_init_1 : decode cX1_init 1 = .ok (.invokespecial 1, 3) := by decide +kernel
theorem dX1_init_4 : decode cX1_init 4 = .ok (.aload_n 0, 1) := by decide +kernel
theorem dX1_init_5 : decode cX1_init 5 = .ok (.iload_n 1, 1) := by decide +kernel
theorem dX1_init_6 : decode cX1_init 6 = .ok (.putfield 7, 3) := by decide +kernel
theorem dX1_init_9 : decode cX1_init 9 = .ok (.aload_n 0, 1) := by decide +kernel
theorem dX1_init_10 : decode cX1_init 10 = .ok (.iload_n 2, 1) := by decide +kernel
theorem dX1_init_11 : decode cX1_init 11 = .ok (.putfield 13, 3) := by decide +kernel
theorem dX1_init_14 : decode cX1_init 14 = .ok (.aload_n 0, 1) := by decide +kernel
theorem dX1_init_15 : decode cX1_init 15 = .ok (.iload_n 3, 1) := by decide +kernel
theorem dX1_init_16 : decode cX1_init 16 = .ok (.putfield 16, 3) := by decide +kernel
theorem dX1_init_19 : decode cX1_init 19 = .ok (.aload_n 0, 1) := by decide +kernel
theorem dX1_init_20 : decode cX1_init 20 = .ok (.iload_n 2, 1) := by decide +kernel
theorem dX1_init_21 : decode cX1_init 21 = .ok (.putfield 19, 3) := by decide +kernel
theorem dX1_init_24 : decode cX1_init 24 = .ok (.return_, 1) := by decide +kernel
theorem dX1_copyFrom_0 : decode cX1_copyFrom 0 = .ok (.aload_n 0, 1) := by decide +kernel
theorem dX1_copyFrom_1 : decode cX1_copyFrom 1 = .ok (.aload_n 1, 1) := by decide +kernel
theorem dX1_copyFrom_2 : decode cX1_copyFrom 2 = .ok (.getfield 7, 3) := by decide +kernel
theorem dX1_copyFrom_5 : decode cX1_copyFrom 5 = .ok (.putfield 7, 3) := by decide +kernel
theorem dX1_copyFrom_8 : decode cX1_copyFrom 8 = .ok (.aload_n 0, 1) := by decide +kernel
theorem dX1_copyFrom_9 : decode cX1_copyFrom 9 = .ok (.aload_n 1, 1) := by decide +kernel
theorem dX1_copyFrom_10 : decode cX1_copyFrom 10 = .ok (.getfield 13, 3) := by decide +kernel
theorem dX1_copyFrom_13 : decode cX1_copyFrom 13 = .ok (.putfield 13, 3) := by decide +kernel
theorem dX1_copyFrom_16 : decode cX1_copyFrom 16 = .ok (.aload_n 0, 1) := by decide +kernel
theorem dX1_copyFrom_17 : decode cX1_copyFrom 17 = .ok (.aload_n 1, 1) := by decide +kernel
theorem dX1_copyFrom_18 : decode cX1_copyFrom 18 = .ok (.getfield 16, 3) := by decide +kernel
theorem dX1_copyFrom_21 : decode cX1_copyFrom 21 = .ok (.putfield 16, 3) := by decide +kernel
theorem dX1_copyFrom_24 : decode cX1_copyFrom 24 = .ok (.aload_n 0, 1) := by decide +kernel
theorem dX1_copyFrom_25 : decode cX1_copyFrom 25 = .ok (.aload_n 1, 1) := by decide +kernel
theorem dX1_copyFrom_26 : decode cX1_copyFrom 26 = .ok (.getfield 19, 3) := by decide +kernel
theorem dX1_copyFrom_29 : decode cX1_copyFrom 29 = .ok (.putfield 19, 3) := by decide +kernel
theorem dX1_copyFrom_32 : decode cX1_copyFrom 32 = .ok (.return_, 1) := by decide +kernel
theorem dX1_letFall_0 : decode cX1_letFall 0 = .ok (.aload_n 0, 1) := by decide +kernel
theorem dX1_letFall_1 : decode cX1_letFall 1 = .ok (.getfield 16, 3) := by decide +kernel
theorem dX1_letFall_4 : decode cX1_letFall 4 = .ok (.aload_n 0, 1) := by decide +kernel
theorem dX1_letFall_5 : decode cX1_letFall 5 = .ok (.getfield 13, 3) := by decide +kernel
theorem dX1_letFall_8 : decode cX1_letFall 8 = .ok (.aload_n 0, 1) := by decide +kernel
theorem dX1_letFall_9 : decode cX1_letFall 9 = .ok (.getfield 19, 3) := by decide +kernel
theorem dX1_letFall_12 : decode cX1_letFall 12 = .ok (.isub, 1) := by decide +kernel
theorem dX1_letFall_13 : decode cX1_letFall 13 = .ok (.invokestatic 22, 3) := by decide +kernel
theorem dX1_letFall_16 : decode cX1_letFall 16 = .ok (.istore_n 1, 1) := by decide +kernel
theorem dX1_letFall_17 : decode cX1_letFall 17 = .ok (.aload_n 0, 1) := by decide +kernel
theorem dX1_letFall_18 : decode cX1_letFall 18 = .ok (.dup, 1) := by decide +kernel
theorem dX1_letFall_19 : decode cX1_letFall 19 = .ok (.getfield 19, 3) := by decide +kernel
theorem dX1_letFall_22 : decode cX1_letFall 22 = .ok (.iload_n 1, 1) := by decide +kernel
theorem dX1_letFall_23 : decode cX1_letFall 23 = .ok (.iadd, 1) := by decide +kernel
theorem dX1_letFall_24 : decode cX1_letFall 24 = .ok (.putfield 19, 3) := by decide +kernel
theorem dX1_letFall_27 : decode cX1_letFall 27 = .ok (.iload_n 1, 1) := by decide +kernel
theorem dX1_letFall_28 : decode cX1_letFall 28 = .ok (.ireturn, 1) := by decide +kernel
theorem dX1_isFullAfter_0 : decode cX1_isFullAfter 0 = .ok (.aload_n 0, 1) := by decide +kernel
theorem dX1_isFullAfter_1 : decode cX1_isFullAfter 1 = .ok (.getfield 19, 3) := by decide +kernel
theorem dX1_isFullAfter_4 : decode cX1_isFullAfter 4 = .ok (.aload_n 0, 1) := by decide +kernel
theorem dX1_isFullAfter_5 : decode cX1_isFullAfter 5 = .ok (.getfield 16, 3) := by decide +kernel
theorem dX1_isFullAfter_8 : decode cX1_isFullAfter 8 = .ok (.iload_n 1, 1) := by decide +kernel
theorem dX1_isFullAfter_9 : decode cX1_isFullAfter 9 = .ok (.imul, 1) := by decide +kernel
theorem dX1_isFullAfter_10 : decode cX1_isFullAfter 10 = .ok (.iadd, 1) := by decide +kernel
theorem dX1_isFullAfter_11 : decode cX1_isFullAfter 11 = .ok (.aload_n 0, 1) := by decide +kernel
theorem dX1_isFullAfter_12 : decode cX1_isFullAfter 12 = .ok (.getfield 13, 3) := by decide +kernel
theorem dX1_isFullAfter_15 : decode cX1_isFullAfter 15 = .ok (.if_icmp .lt 7, 3) := by decide +kernel
theorem dX1_isFullAfter_18 : decode cX1_isFullAfter 18 = .ok (.iconst 1, 1) := by decide +kernel
theorem dX1_isFullAfter_19 : decode cX1_isFullAfter 19 = .ok (.goto 4, 3) := by decide +kernel
theorem dX1_isFullAfter_22 : decode cX1_isFullAfter 22 = .ok (.iconst 0, 1) := by decide +kernel
theorem dX1_isFullAfter_23 : decode cX1_isFullAfter 23 = .ok (.ireturn, 1) := by decide +kernel
theorem dX2_init_0 : decode cX2_init 0 = .ok (.aload_n 0, 1) := by decide +kernel
theorem dX2_init_1 : decode cX2_init 1 = .ok (.invokespecial 1, 3) := by decide +kernel
theorem dX2_init_4 : decode cX2_init 4 = .ok (.aload_n 0, 1) := by decide +kernel
theorem dX2_init_5 : decode cX2_init 5 = .ok (.new 7, 3) := by decide +kernel
theorem dX2_init_8 : decode cX2_init 8 = .ok (.dup, 1) := by decide +kernel
theorem dX2_init_9 : decode cX2_init 9 = .ok (.invokespecial 9, 3) := by decide +kernel
theorem dX2_init_12 : decode cX2_init 12 = .ok (.putfield 10, 3) := by decide +kernel
theorem dX2_init_15 : decode cX2_init 15 = .ok (.aload_n 0, 1) := by decide +kernel
theorem dX2_init_16 : decode cX2_init 16 = .ok (.new 7, 3) := by decide +kernel
theorem dX2_init_19 : decode cX2_init 19 = .ok (.dup, 1) := by decide +kernel
theorem dX2_init_20 : decode cX2_init 20 = .ok (.invokespecial 9, 3) := by decide +kernel
theorem dX2_init_23 : decode cX2_init 23 = .ok (.putfield 16, 3) := by decide +kernel
theorem dX2_init_26 : decode cX2_init 26 = .ok (.aload_n 0, 1) := by decide +kernel
theorem dX2_init_27 : decode cX2_init 27 = .ok (.new 19, 3) := by decide +kernel
theorem dX2_init_30 : decode cX2_init 30 = .ok (.dup, 1) := by decide +kernel
theorem dX2_init_31 : decode cX2_init 31 = .ok (.iconst 0, 1) := by decide +kernel
theorem dX2_init_32 : decode cX2_init 32 = .ok (.iconst 0, 1) := by decide +kernel
theorem dX2_init_33 : decode cX2_init 33 = .ok (.iconst 0, 1) := by decide +kernel
theorem dX2_init_34 : decode cX2_init 34 = .ok (.invokespecial 21, 3) := by decide +kernel
theorem dX2_init_37 : decode cX2_init 37 = .ok (.putfield 24, 3) := by decide +kernel
theorem dX2_init_40 : decode cX2_init 40 = .ok (.aload_n 0, 1) := by decide +kernel
theorem dX2_init_41 : decode cX2_init 41 = .ok (.new 28, 3) := by decide +kernel
theorem dX2_init_44 : decode cX2_init 44 = .ok (.dup, 1) := by decide +kernel
theorem dX2_init_45 : decode cX2_init 45 = .ok (.aload_n 0, 1) := by decide +kernel
theorem dX2_init_46 : decode cX2_init 46 = .ok (.getfield 24, 3) := by decide +kernel
theorem dX2_init_49 : decode cX2_init 49 = .ok (.iconst 0, 1) := by decide +kernel
theorem dX2_init_50 : decode cX2_init 50 = .ok (.invokespecial 30, 3) := by decide +kernel
theorem dX2_init_53 : decode cX2_init 53 = .ok (.putfield 33, 3) := by decide +kernel
theorem dX2_init_56 : decode cX2_init 56 = .ok (.return_, 1) := by decide +kernel
theorem dX2_addWand_0 : decode cX2_addWand 0 = .ok (.iload_n 1, 1) := by decide +kernel
theorem dX2_addWand_1 : decode cX2_addWand 1 = .ok (.iconst 1, 1) := by decide +kernel
theorem dX2_addWand_2 : decode cX2_addWand 2 = .ok (.bipush 60, 2) := by decide +kernel
theorem dX2_addWand_4 : decode cX2_addWand 4 = .ok (.invokestatic 37, 3) := by decide +kernel
theorem dX2_addWand_7 : decode cX2_addWand 7 = .ok (.iload_n 2, 1) := by decide +kernel
theorem dX2_addWand_8 : decode cX2_addWand 8 = .ok (.iconst 0, 1) := by decide +kernel
theorem dX2_addWand_9 : decode cX2_addWand 9 = .ok (.bipush 9, 2) := by decide +kernel
theorem dX2_addWand_11 : decode cX2_addWand 11 = .ok (.invokestatic 37, 3) := by decide +kernel
theorem dX2_addWand_14 : decode cX2_addWand 14 = .ok (.aload_n 0, 1) := by decide +kernel
theorem dX2_addWand_15 : decode cX2_addWand 15 = .ok (.getfield 10, 3) := by decide +kernel
theorem dX2_addWand_18 : decode cX2_addWand 18 = .ok (.invokevirtual 40, 3) := by decide +kernel
theorem dX2_addWand_21 : decode cX2_addWand 21 = .ok (.istore_n 3, 1) := by decide +kernel
theorem dX2_addWand_22 : decode cX2_addWand 22 = .ok (.iload_n 3, 1) := by decide +kernel
theorem dX2_addWand_23 : decode cX2_addWand 23 = .ok (.iconst 4, 1) := by decide +kernel
theorem dX2_addWand_24 : decode cX2_addWand 24 = .ok (.if_icmp .lt 13, 3) := by decide +kernel
theorem dX2_addWand_27 : decode cX2_addWand 27 = .ok (.new 44, 3) := by decide +kernel
theorem dX2_addWand_30 : decode cX2_addWand 30 = .ok (.dup, 1) := by decide +kernel
theorem dX2_addWand_31 : decode cX2_addWand 31 = .ok (.ldc 46, 2) := by decide +kernel
theorem dX2_addWand_33 : decode cX2_addWand 33 = .ok (.invokespecial 48, 3) := by decide +kernel
theorem dX2_addWand_36 : decode cX2_addWand 36 = .ok (.athrow, 1) := by decide +kernel
theorem dX2_addWand_37 : decode cX2_addWand 37 = .ok (.aload_n 0, 1) := by decide +kernel
theorem dX2_addWand_38 : decode cX2_addWand 38 = .ok (.getfield 10, 3) := by decide +kernel
theorem dX2_addWand_41 : decode cX2_addWand 41 = .ok (.new 19, 3) := by decide +kernel
theorem dX2_addWand_44 : decode cX2_addWand 44 = .ok (.dup, 1) := by decide +kernel
theorem dX2_addWand_45 : decode cX2_addWand 45 = .ok (.iload_n 3, 1) := by decide +kernel
theorem dX2_addWand_46 : decode cX2_addWand 46 = .ok (.iload_n 1, 1) := by decide +kernel
theorem dX2_addWand_47 : decode cX2_addWand 47 = .ok (.iload_n 2, 1) := by decide +kernel
theorem dX2_addWand_48 : decode cX2_addWand 48 = .ok (.invokespecial 21, 3) := by decide +kernel
theorem dX2_addWand_51 : decode cX2_addWand 51 = .ok (.invokevirtual 51, 3) := by decide +kernel
theorem dX2_addWand_54 : decode cX2_addWand 54 = .ok (.pop, 1) := by decide +kernel
theorem dX2_addWand_55 : decode cX2_addWand 55 = .ok (.iload_n 3, 1) := by decide +kernel
theorem dX2_addWand_56 : decode cX2_addWand 56 = .ok (.ireturn, 1) := by decide +kernel
theorem dX2_addChild_0 : decode cX2_addChild 0 = .ok (.aload_n 0, 1) := by decide +kernel
theorem dX2_addChild_1 : decode cX2_addChild 1 = .ok (.iload_n 1, 1) := by decide +kernel
theorem dX2_addChild_2 : decode cX2_addChild 2 = .ok (.invokevirtual 55, 3) := by decide +kernel
theorem dX2_addChild_5 : decode cX2_addChild 5 = .ok (.astore_n 3, 1) := by decide +kernel
theorem dX2_addChild_6 : decode cX2_addChild 6 = .ok (.iload_n 2, 1) := by decide +kernel
theorem dX2_addChild_7 : decode cX2_addChild 7 = .ok (.iconst 0, 1) := by decide +kernel
theorem dX2_addChild_8 : decode cX2_addChild 8 = .ok (.bipush 29, 2) := by decide +kernel
theorem dX2_addChild_10 : decode cX2_addChild 10 = .ok (.invokestatic 37, 3) := by decide +kernel
theorem dX2_addChild_13 : decode cX2_addChild 13 = .ok (.aload_n 0, 1) := by decide +kernel
theorem dX2_addChild_14 : decode cX2_addChild 14 = .ok (.getfield 16, 3) := by decide +kernel
theorem dX2_addChild_17 : decode cX2_addChild 17 = .ok (.invokevirtual 40, 3) := by decide +kernel
theorem dX2_addChild_20 : decode cX2_addChild 20 = .ok (.istore 4, 2) := by decide +kernel
theorem dX2_addChild_22 : decode cX2_addChild 22 = .ok (.iload 4, 2) := by decide +kernel
theorem dX2_addChild_24 : decode cX2_addChild 24 = .ok (.bipush 10, 2) := by decide +kernel
theorem dX2_addChild_26 : decode cX2_addChild 26 = .ok (.if_icmp .lt 13, 3) := by decide +kernel
theorem dX2_addChild_29 : decode cX2_addChild 29 = .ok (.new 44, 3) := by decide +kernel
theorem dX2_addChild_32 : decode cX2_addChild 32 = .ok (.dup, 1) := by decide +kernel
theorem dX2_addChild_33 : decode cX2_addChild 33 = .ok (.ldc 59, 2) := by decide +kernel
theorem dX2_addChild_35 : decode cX2_addChild 35 = .ok (.invokespecial 48, 3) := by decide +kernel
theorem dX2_addChild_38 : decode cX2_addChild 38 = .ok (.athrow, 1) := by decide +kernel
theorem dX2_addChild_39 : decode cX2_addChild 39 = .ok (.new 28, 3) := by decide +kernel
theorem dX2_addChild_42 : decode cX2_addChild 42 = .ok (.dup, 1) := by decide +kernel
theorem dX2_addChild_43 : decode cX2_addChild 43 = .ok (.aload_n 3, 1) := by decide +kernel
theorem dX2_addChild_44 : decode cX2_addChild 44 = .ok (.iload_n 2, 1) := by decide +kernel
theorem dX2_addChild_45 : decode cX2_addChild 45 = .ok (.invokespecial 30, 3) := by decide +kernel
theorem dX2_addChild_48 : decode cX2_addChild 48 = .ok (.astore 5, 2) := by decide +kernel
theorem dX2_addChild_50 : decode cX2_addChild 50 = .ok (.aload 5, 2) := by decide +kernel
theorem dX2_addChild_52 : decode cX2_addChild 52 = .ok (.aload_n 0, 1) := by decide +kernel
theorem dX2_addChild_53 : decode cX2_addChild 53 = .ok (.invokevirtual 61, 3) := by decide +kernel
theorem dX2_addChild_56 : decode cX2_addChild 56 = .ok (.invokevirtual 64, 3) := by decide +kernel
theorem dX2_addChild_59 : decode cX2_addChild 59 = .ok (.aload_n 0, 1) := by decide +kernel
theorem dX2_addChild_60 : decode cX2_addChild 60 = .ok (.getfield 16, 3) := by decide +kernel
theorem dX2_addChild_63 : decode cX2_addChild 63 = .ok (.aload 5, 2) := by decide +kernel
theorem dX2_addChild_65 : decode cX2_addChild 65 = .ok (.invokevirtual 51, 3) := by decide +kernel
theorem dX2_addChild_68 : decode cX2_addChild 68 = .ok (.pop, 1) := by decide +kernel
theorem dX2_addChild_69 : decode cX2_addChild 69 = .ok (.iload 4, 2) := by decide +kernel
theorem dX2_addChild_71 : decode cX2_addChild 71 = .ok (.ireturn, 1) := by decide +kernel
theorem dX2_give_0 : decode cX2_give 0 = .ok (.aload_n 0, 1) := by decide +kernel
theorem dX2_give_1 : decode cX2_give 1 = .ok (.iload_n 1, 1) := by decide +kernel
theorem dX2_give_2 : decode cX2_give 2 = .ok (.invokevirtual 68, 3) := by decide +kernel
theorem dX2_give_5 : decode cX2_give 5 = .ok (.astore_n 3, 1) := by decide +kernel
theorem dX2_give_6 : decode cX2_give 6 = .ok (.aload_n 0, 1) := by decide +kernel
theorem dX2_give_7 : decode cX2_give 7 = .ok (.iload_n 2, 1) := by decide +kernel
theorem dX2_give_8 : decode cX2_give 8 = .ok (.invokevirtual 55, 3) := by decide +kernel
theorem dX2_give_11 : decode cX2_give 11 = .ok (.astore 4, 2) := by decide +kernel
theorem dX2_give_13 : decode cX2_give 13 = .ok (.aload_n 3, 1) := by decide +kernel
theorem dX2_give_14 : decode cX2_give 14 = .ok (.getfield 72, 3) := by decide +kernel
theorem dX2_give_17 : decode cX2_give 17 = .ok (.getfield 75, 3) := by decide +kernel
theorem dX2_give_20 : decode cX2_give 20 = .ok (.istore 5, 2) := by decide +kernel
theorem dX2_give_22 : decode cX2_give 22 = .ok (.aload_n 3, 1) := by decide +kernel
theorem dX2_give_23 : decode cX2_give 23 = .ok (.aload 4, 2) := by decide +kernel
theorem dX2_give_25 : decode cX2_give 25 = .ok (.putfield 72, 3) := by decide +kernel
theorem dX2_give_28 : decode cX2_give 28 = .ok (.iload 5, 2) := by decide +kernel
theorem dX2_give_30 : decode cX2_give 30 = .ok (.ireturn, 1) := by decide +kernel
theorem dX2_setFall_0 : decode cX2_setFall 0 = .ok (.aload_n 0, 1) := by decide +kernel
theorem dX2_setFall_1 : decode cX2_setFall 1 = .ok (.iload_n 1, 1) := by decide +kernel
theorem dX2_setFall_2 : decode cX2_setFall 2 = .ok (.invokevirtual 55, 3) := by decide +kernel
theorem dX2_setFall_5 : decode cX2_setFall 5 = .ok (.astore_n 3, 1) := by decide +kernel
theorem dX2_setFall_6 : decode cX2_setFall 6 = .ok (.iload_n 2, 1) := by decide +kernel
theorem dX2_setFall_7 : decode cX2_setFall 7 = .ok (.iconst 0, 1) := by decide +kernel
theorem dX2_setFall_8 : decode cX2_setFall 8 = .ok (.bipush 9, 2) := by decide +kernel
theorem dX2_setFall_10 : decode cX2_setFall 10 = .ok (.invokestatic 37, 3) := by decide +kernel
theorem dX2_setFall_13 : decode cX2_setFall 13 = .ok (.aload_n 3, 1) := by decide +kernel
theorem dX2_setFall_14 : decode cX2_setFall 14 = .ok (.getfield 79, 3) := by decide +kernel
theorem dX2_setFall_17 : decode cX2_setFall 17 = .ok (.istore 4, 2) := by decide +kernel
theorem dX2_setFall_19 : decode cX2_setFall 19 = .ok (.aload_n 3, 1) := by decide +kernel
theorem dX2_setFall_20 : decode cX2_setFall 20 = .ok (.iload_n 2, 1) := by decide +kernel
theorem dX2_setFall_21 : decode cX2_setFall 21 = .ok (.putfield 79, 3) := by decide +kernel
theorem dX2_setFall_24 : decode cX2_setFall 24 = .ok (.iload 4, 2) := by decide +kernel
theorem dX2_setFall_26 : decode cX2_setFall 26 = .ok (.ireturn, 1) := by decide +kernel
theorem dX2_wish_0 : decode cX2_wish 0 = .ok (.aload_n 0, 1) := by decide +kernel
theorem dX2_wish_1 : decode cX2_wish 1 = .ok (.iload_n 1, 1) := by decide +kernel
theorem dX2_wish_2 : decode cX2_wish 2 = .ok (.invokevirtual 68, 3) := by decide +kernel
theorem dX2_wish_5 : decode cX2_wish 5 = .ok (.astore_n 3, 1) := by decide +kernel
theorem dX2_wish_6 : decode cX2_wish 6 = .ok (.iload_n 2, 1) := by decide +kernel
theorem dX2_wish_7 : decode cX2_wish 7 = .ok (.invokestatic 82, 3) := by decide +kernel
theorem dX2_wish_10 : decode cX2_wish 10 = .ok (.aload_n 3, 1) := by decide +kernel
theorem dX2_wish_11 : decode cX2_wish 11 = .ok (.iload_n 2, 1) := by decide +kernel
theorem dX2_wish_12 : decode cX2_wish 12 = .ok (.invokevirtual 85, 3) := by decide +kernel
theorem dX2_wish_15 : decode cX2_wish 15 = .ok (.istore 4, 2) := by decide +kernel
theorem dX2_wish_17 : decode cX2_wish 17 = .ok (.iload 4, 2) := by decide +kernel
theorem dX2_wish_19 : decode cX2_wish 19 = .ok (.ifCond .eq 16, 3) := by decide +kernel
theorem dX2_wish_22 : decode cX2_wish 22 = .ok (.aload_n 0, 1) := by decide +kernel
theorem dX2_wish_23 : decode cX2_wish 23 = .ok (.dup, 1) := by decide +kernel
theorem dX2_wish_24 : decode cX2_wish 24 = .ok (.getfield 89, 3) := by decide +kernel
theorem dX2_wish_27 : decode cX2_wish 27 = .ok (.iconst 1, 1) := by decide +kernel
theorem dX2_wish_28 : decode cX2_wish 28 = .ok (.iadd, 1) := by decide +kernel
theorem dX2_wish_29 : decode cX2_wish 29 = .ok (.putfield 89, 3) := by decide +kernel
theorem dX2_wish_32 : decode cX2_wish 32 = .ok (.goto 13, 3) := by decide +kernel
theorem dX2_wish_35 : decode cX2_wish 35 = .ok (.aload_n 0, 1) := by decide +kernel
theorem dX2_wish_36 : decode cX2_wish 36 = .ok (.dup, 1) := by decide +kernel
theorem dX2_wish_37 : decode cX2_wish 37 = .ok (.getfield 92, 3) := by decide +kernel
theorem dX2_wish_40 : decode cX2_wish 40 = .ok (.iconst 1, 1) := by decide +kernel
theorem dX2_wish_41 : decode cX2_wish 41 = .ok (.iadd, 1) := by decide +kernel
theorem dX2_wish_42 : decode cX2_wish 42 = .ok (.putfield 92, 3) := by decide +kernel
theorem dX2_wish_45 : decode cX2_wish 45 = .ok (.iload 4, 2) := by decide +kernel
theorem dX2_wish_47 : decode cX2_wish 47 = .ok (.ireturn, 1) := by decide +kernel
theorem dX2_forgive_0 : decode cX2_forgive 0 = .ok (.aload_n 0, 1) := by decide +kernel
theorem dX2_forgive_1 : decode cX2_forgive 1 = .ok (.iload_n 1, 1) := by decide +kernel
theorem dX2_forgive_2 : decode cX2_forgive 2 = .ok (.invokevirtual 68, 3) := by decide +kernel
theorem dX2_forgive_5 : decode cX2_forgive 5 = .ok (.invokevirtual 95, 3) := by decide +kernel
theorem dX2_forgive_8 : decode cX2_forgive 8 = .ok (.ireturn, 1) := by decide +kernel
theorem dX2_pass_0 : decode cX2_pass 0 = .ok (.iload_n 1, 1) := by decide +kernel
theorem dX2_pass_1 : decode cX2_pass 1 = .ok (.iconst 1, 1) := by decide +kernel
theorem dX2_pass_2 : decode cX2_pass 2 = .ok (.bipush 100, 2) := by decide +kernel
theorem dX2_pass_4 : decode cX2_pass 4 = .ok (.invokestatic 37, 3) := by decide +kernel
theorem dX2_pass_7 : decode cX2_pass 7 = .ok (.iconst 0, 1) := by decide +kernel
theorem dX2_pass_8 : decode cX2_pass 8 = .ok (.istore_n 2, 1) := by decide +kernel
theorem dX2_pass_9 : decode cX2_pass 9 = .ok (.iconst 0, 1) := by decide +kernel
theorem dX2_pass_10 : decode cX2_pass 10 = .ok (.istore_n 3, 1) := by decide +kernel
theorem dX2_pass_11 : decode cX2_pass 11 = .ok (.iload_n 3, 1) := by decide +kernel
theorem dX2_pass_12 : decode cX2_pass 12 = .ok (.iload_n 1, 1) := by decide +kernel
theorem dX2_pass_13 : decode cX2_pass 13 = .ok (.if_icmp .ge 16, 3) := by decide +kernel
theorem dX2_pass_16 : decode cX2_pass 16 = .ok (.iload_n 2, 1) := by decide +kernel
theorem dX2_pass_17 : decode cX2_pass 17 = .ok (.aload_n 0, 1) := by decide +kernel
theorem dX2_pass_18 : decode cX2_pass 18 = .ok (.invokevirtual 98, 3) := by decide +kernel
theorem dX2_pass_21 : decode cX2_pass 21 = .ok (.iadd, 1) := by decide +kernel
theorem dX2_pass_22 : decode cX2_pass 22 = .ok (.istore_n 2, 1) := by decide +kernel
theorem dX2_pass_23 : decode cX2_pass 23 = .ok (.iinc 3 1, 3) := by decide +kernel
theorem dX2_pass_26 : decode cX2_pass 26 = .ok (.goto (-15), 3) := by decide +kernel
theorem dX2_pass_29 : decode cX2_pass 29 = .ok (.iload_n 2, 1) := by decide +kernel
theorem dX2_pass_30 : decode cX2_pass 30 = .ok (.ireturn, 1) := by decide +kernel
theorem dX2_hour_0 : decode cX2_hour 0 = .ok (.aload_n 0, 1) := by decide +kernel
theorem dX2_hour_1 : decode cX2_hour 1 = .ok (.getfield 101, 3) := by decide +kernel
theorem dX2_hour_4 : decode cX2_hour 4 = .ok (.ireturn, 1) := by decide +kernel
theorem dX2_day_0 : decode cX2_day 0 = .ok (.aload_n 0, 1) := by decide +kernel
theorem dX2_day_1 : decode cX2_day 1 = .ok (.getfield 101, 3) := by decide +kernel
theorem dX2_day_4 : decode cX2_day 4 = .ok (.bipush 24, 2) := by decide +kernel
theorem dX2_day_6 : decode cX2_day 6 = .ok (.idiv, 1) := by decide +kernel
theorem dX2_day_7 : decode cX2_day 7 = .ok (.ireturn, 1) := by decide +kernel
theorem dX2_wands_0 : decode cX2_wands 0 = .ok (.aload_n 0, 1) := by decide +kernel
theorem dX2_wands_1 : decode cX2_wands 1 = .ok (.getfield 10, 3) := by decide +kernel
theorem dX2_wands_4 : decode cX2_wands 4 = .ok (.invokevirtual 40, 3) := by decide +kernel
theorem dX2_wands_7 : decode cX2_wands 7 = .ok (.ireturn, 1) := by decide +kernel
theorem dX2_children_0 : decode cX2_children 0 = .ok (.aload_n 0, 1) := by decide +kernel
theorem dX2_children_1 : decode cX2_children 1 = .ok (.getfield 16, 3) := by decide +kernel
theorem dX2_children_4 : decode cX2_children 4 = .ok (.invokevirtual 40, 3) := by decide +kernel
theorem dX2_children_7 : decode cX2_children 7 = .ok (.ireturn, 1) := by decide +kernel
theorem dX2_granted_0 : decode cX2_granted 0 = .ok (.aload_n 0, 1) := by decide +kernel
theorem dX2_granted_1 : decode cX2_granted 1 = .ok (.getfield 89, 3) := by decide +kernel
theorem dX2_granted_4 : decode cX2_granted 4 = .ok (.ireturn, 1) := by decide +kernel
theorem dX2_denied_0 : decode cX2_denied 0 = .ok (.aload_n 0, 1) := by decide +kernel
theorem dX2_denied_1 : decode cX2_denied 1 = .ok (.getfield 92, 3) := by decide +kernel
theorem dX2_denied_4 : decode cX2_denied 4 = .ok (.ireturn, 1) := by decide +kernel
theorem dX2_punished_0 : decode cX2_punished 0 = .ok (.iconst 0, 1) := by decide +kernel
theorem dX2_punished_1 : decode cX2_punished 1 = .ok (.istore_n 1, 1) := by decide +kernel
theorem dX2_punished_2 : decode cX2_punished 2 = .ok (.iconst 0, 1) := by decide +kernel
theorem dX2_punished_3 : decode cX2_punished 3 = .ok (.istore_n 2, 1) := by decide +kernel
theorem dX2_punished_4 : decode cX2_punished 4 = .ok (.iload_n 2, 1) := by decide +kernel
theorem dX2_punished_5 : decode cX2_punished 5 = .ok (.aload_n 0, 1) := by decide +kernel
theorem dX2_punished_6 : decode cX2_punished 6 = .ok (.getfield 16, 3) := by decide +kernel
theorem dX2_punished_9 : decode cX2_punished 9 = .ok (.invokevirtual 40, 3) := by decide +kernel
theorem dX2_punished_12 : decode cX2_punished 12 = .ok (.if_icmp .ge 29, 3) := by decide +kernel
theorem dX2_punished_15 : decode cX2_punished 15 = .ok (.aload_n 0, 1) := by decide +kernel
theorem dX2_punished_16 : decode cX2_punished 16 = .ok (.getfield 16, 3) := by decide +kernel
theorem dX2_punished_19 : decode cX2_punished 19 = .ok (.iload_n 2, 1) := by decide +kernel
theorem dX2_punished_20 : decode cX2_punished 20 = .ok (.invokevirtual 104, 3) := by decide +kernel
theorem dX2_punished_23 : decode cX2_punished 23 = .ok (.checkcast 28, 3) := by decide +kernel
theorem dX2_punished_26 : decode cX2_punished 26 = .ok (.invokevirtual 108, 3) := by decide +kernel
theorem dX2_punished_29 : decode cX2_punished 29 = .ok (.ifCond .eq 6, 3) := by decide +kernel
theorem dX2_punished_32 : decode cX2_punished 32 = .ok (.iinc 1 1, 3) := by decide +kernel
theorem dX2_punished_35 : decode cX2_punished 35 = .ok (.iinc 2 1, 3) := by decide +kernel
theorem dX2_punished_38 : decode cX2_punished 38 = .ok (.goto (-34), 3) := by decide +kernel
theorem dX2_punished_41 : decode cX2_punished 41 = .ok (.iload_n 1, 1) := by decide +kernel
theorem dX2_punished_42 : decode cX2_punished 42 = .ok (.ireturn, 1) := by decide +kernel
theorem dX2_dustIn_0 : decode cX2_dustIn 0 = .ok (.aload_n 0, 1) := by decide +kernel
theorem dX2_dustIn_1 : decode cX2_dustIn 1 = .ok (.iload_n 1, 1) := by decide +kernel
theorem dX2_dustIn_2 : decode cX2_dustIn 2 = .ok (.invokevirtual 55, 3) := by decide +kernel
theorem dX2_dustIn_5 : decode cX2_dustIn 5 = .ok (.getfield 112, 3) := by decide +kernel
theorem dX2_dustIn_8 : decode cX2_dustIn 8 = .ok (.ireturn, 1) := by decide +kernel
theorem dX2_users_0 : decode cX2_users 0 = .ok (.aload_n 0, 1) := by decide +kernel
theorem dX2_users_1 : decode cX2_users 1 = .ok (.iload_n 1, 1) := by decide +kernel
theorem dX2_users_2 : decode cX2_users 2 = .ok (.invokevirtual 55, 3) := by decide +kernel
theorem dX2_users_5 : decode cX2_users 5 = .ok (.getfield 75, 3) := by decide +kernel
theorem dX2_users_8 : decode cX2_users 8 = .ok (.istore_n 2, 1) := by decide +kernel
theorem dX2_users_9 : decode cX2_users 9 = .ok (.iconst 0, 1) := by decide +kernel
theorem dX2_users_10 : decode cX2_users 10 = .ok (.istore_n 3, 1) := by decide +kernel
theorem dX2_users_11 : decode cX2_users 11 = .ok (.iconst 0, 1) := by decide +kernel
theorem dX2_users_12 : decode cX2_users 12 = .ok (.istore 4, 2) := by decide +kernel
theorem dX2_users_14 : decode cX2_users 14 = .ok (.iload 4, 2) := by decide +kernel
theorem dX2_users_16 : decode cX2_users 16 = .ok (.aload_n 0, 1) := by decide +kernel
theorem dX2_users_17 : decode cX2_users 17 = .ok (.getfield 16, 3) := by decide +kernel
theorem dX2_users_20 : decode cX2_users 20 = .ok (.invokevirtual 40, 3) := by decide +kernel
theorem dX2_users_23 : decode cX2_users 23 = .ok (.if_icmp .ge 34, 3) := by decide +kernel
theorem dX2_users_26 : decode cX2_users 26 = .ok (.aload_n 0, 1) := by decide +kernel
theorem dX2_users_27 : decode cX2_users 27 = .ok (.getfield 16, 3) := by decide +kernel
theorem dX2_users_30 : decode cX2_users 30 = .ok (.iload 4, 2) := by decide +kernel
theorem dX2_users_32 : decode cX2_users 32 = .ok (.invokevirtual 104, 3) := by decide +kernel
theorem dX2_users_35 : decode cX2_users 35 = .ok (.checkcast 28, 3) := by decide +kernel
theorem dX2_users_38 : decode cX2_users 38 = .ok (.getfield 72, 3) := by decide +kernel
theorem dX2_users_41 : decode cX2_users 41 = .ok (.getfield 75, 3) := by decide +kernel
theorem dX2_users_44 : decode cX2_users 44 = .ok (.iload_n 2, 1) := by decide +kernel
theorem dX2_users_45 : decode cX2_users 45 = .ok (.if_icmp .ne 6, 3) := by decide +kernel
theorem dX2_users_48 : decode cX2_users 48 = .ok (.iinc 3 1, 3) := by decide +kernel
theorem dX2_users_51 : decode cX2_users 51 = .ok (.iinc 4 1, 3) := by decide +kernel
theorem dX2_users_54 : decode cX2_users 54 = .ok (.goto (-40), 3) := by decide +kernel
theorem dX2_users_57 : decode cX2_users 57 = .ok (.iload_n 3, 1) := by decide +kernel
theorem dX2_users_58 : decode cX2_users 58 = .ok (.ireturn, 1) := by decide +kernel
theorem dX2_wandOf_0 : decode cX2_wandOf 0 = .ok (.aload_n 0, 1) := by decide +kernel
theorem dX2_wandOf_1 : decode cX2_wandOf 1 = .ok (.iload_n 1, 1) := by decide +kernel
theorem dX2_wandOf_2 : decode cX2_wandOf 2 = .ok (.invokevirtual 68, 3) := by decide +kernel
theorem dX2_wandOf_5 : decode cX2_wandOf 5 = .ok (.getfield 72, 3) := by decide +kernel
theorem dX2_wandOf_8 : decode cX2_wandOf 8 = .ok (.getfield 75, 3) := by decide +kernel
theorem dX2_wandOf_11 : decode cX2_wandOf 11 = .ok (.ireturn, 1) := by decide +kernel
theorem dX2_burstOf_0 : decode cX2_burstOf 0 = .ok (.aload_n 0, 1) := by decide +kernel
theorem dX2_burstOf_1 : decode cX2_burstOf 1 = .ok (.iload_n 1, 1) := by decide +kernel
theorem dX2_burstOf_2 : decode cX2_burstOf 2 = .ok (.invokevirtual 68, 3) := by decide +kernel
theorem dX2_burstOf_5 : decode cX2_burstOf 5 = .ok (.getfield 115, 3) := by decide +kernel
theorem dX2_burstOf_8 : decode cX2_burstOf 8 = .ok (.ireturn, 1) := by decide +kernel
theorem dX2_punishedFor_0 : decode cX2_punishedFor 0 = .ok (.aload_n 0, 1) := by decide +kernel
theorem dX2_punishedFor_1 : decode cX2_punishedFor 1 = .ok (.iload_n 1, 1) := by decide +kernel
theorem dX2_punishedFor_2 : decode cX2_punishedFor 2 = .ok (.invokevirtual 68, 3) := by decide +kernel
theorem dX2_punishedFor_5 : decode cX2_punishedFor 5 = .ok (.getfield 118, 3) := by decide +kernel
theorem dX2_punishedFor_8 : decode cX2_punishedFor 8 = .ok (.ireturn, 1) := by decide +kernel
theorem dX2_marksOf_0 : decode cX2_marksOf 0 = .ok (.aload_n 0, 1) := by decide +kernel
theorem dX2_marksOf_1 : decode cX2_marksOf 1 = .ok (.iload_n 1, 1) := by decide +kernel
theorem dX2_marksOf_2 : decode cX2_marksOf 2 = .ok (.invokevirtual 68, 3) := by decide +kernel
theorem dX2_marksOf_5 : decode cX2_marksOf 5 = .ok (.getfield 121, 3) := by decide +kernel
theorem dX2_marksOf_8 : decode cX2_marksOf 8 = .ok (.ireturn, 1) := by decide +kernel
theorem dX2_nextPunishment_0 : decode cX2_nextPunishment 0 = .ok (.aload_n 0, 1) := by decide +kernel
theorem dX2_nextPunishment_1 : decode cX2_nextPunishment 1 = .ok (.iload_n 1, 1) := by decide +kernel
theorem dX2_nextPunishment_2 : decode cX2_nextPunishment 2 = .ok (.invokevirtual 68, 3) := by decide +kernel
theorem dX2_nextPunishment_5 : decode cX2_nextPunishment 5 = .ok (.getfield 124, 3) := by decide +kernel
theorem dX2_nextPunishment_8 : decode cX2_nextPunishment 8 = .ok (.ireturn, 1) := by decide +kernel
theorem dX2_daysToBirthday_0 : decode cX2_daysToBirthday 0 = .ok (.aload_n 0, 1) := by decide +kernel
theorem dX2_daysToBirthday_1 : decode cX2_daysToBirthday 1 = .ok (.iload_n 1, 1) := by decide +kernel
theorem dX2_daysToBirthday_2 : decode cX2_daysToBirthday 2 = .ok (.invokevirtual 68, 3) := by decide +kernel
theorem dX2_daysToBirthday_5 : decode cX2_daysToBirthday 5 = .ok (.getfield 127, 3) := by decide +kernel
theorem dX2_daysToBirthday_8 : decode cX2_daysToBirthday 8 = .ok (.aload_n 0, 1) := by decide +kernel
theorem dX2_daysToBirthday_9 : decode cX2_daysToBirthday 9 = .ok (.invokevirtual 61, 3) := by decide +kernel
theorem dX2_daysToBirthday_12 : decode cX2_daysToBirthday 12 = .ok (.isub, 1) := by decide +kernel
theorem dX2_daysToBirthday_13 : decode cX2_daysToBirthday 13 = .ok (.bipush 30, 2) := by decide +kernel
theorem dX2_daysToBirthday_15 : decode cX2_daysToBirthday 15 = .ok (.invokestatic 130, 3) := by decide +kernel
theorem dX2_daysToBirthday_18 : decode cX2_daysToBirthday 18 = .ok (.ireturn, 1) := by decide +kernel
theorem dX2_greatestWish_0 : decode cX2_greatestWish 0 = .ok (.bipush 20, 2) := by decide +kernel
theorem dX2_greatestWish_2 : decode cX2_greatestWish 2 = .ok (.aload_n 0, 1) := by decide +kernel
theorem dX2_greatestWish_3 : decode cX2_greatestWish 3 = .ok (.iload_n 1, 1) := by decide +kernel
theorem dX2_greatestWish_4 : decode cX2_greatestWish 4 = .ok (.invokevirtual 68, 3) := by decide +kernel
theorem dX2_greatestWish_7 : decode cX2_greatestWish 7 = .ok (.invokevirtual 136, 3) := by decide +kernel
theorem dX2_greatestWish_10 : decode cX2_greatestWish 10 = .ok (.invokestatic 139, 3) := by decide +kernel
theorem dX2_greatestWish_13 : decode cX2_greatestWish 13 = .ok (.ireturn, 1) := by decide +kernel
theorem dX2_hoursUntil_0 : decode cX2_hoursUntil 0 = .ok (.aload_n 0, 1) := by decide +kernel
theorem dX2_hoursUntil_1 : decode cX2_hoursUntil 1 = .ok (.iload_n 1, 1) := by decide +kernel
theorem dX2_hoursUntil_2 : decode cX2_hoursUntil 2 = .ok (.invokevirtual 68, 3) := by decide +kernel
theorem dX2_hoursUntil_5 : decode cX2_hoursUntil 5 = .ok (.astore_n 3, 1) := by decide +kernel
theorem dX2_hoursUntil_6 : decode cX2_hoursUntil 6 = .ok (.iload_n 2, 1) := by decide +kernel
theorem dX2_hoursUntil_7 : decode cX2_hoursUntil 7 = .ok (.invokestatic 82, 3) := by decide +kernel
theorem dX2_hoursUntil_10 : decode cX2_hoursUntil 10 = .ok (.aload_n 0, 1) := by decide +kernel
theorem dX2_hoursUntil_11 : decode cX2_hoursUntil 11 = .ok (.aload_n 3, 1) := by decide +kernel
theorem dX2_hoursUntil_12 : decode cX2_hoursUntil 12 = .ok (.invokevirtual 142, 3) := by decide +kernel
theorem dX2_hoursUntil_15 : decode cX2_hoursUntil 15 = .ok (.iconst 0, 1) := by decide +kernel
theorem dX2_hoursUntil_16 : decode cX2_hoursUntil 16 = .ok (.istore 4, 2) := by decide +kernel
theorem dX2_hoursUntil_18 : decode cX2_hoursUntil 18 = .ok (.iload 4, 2) := by decide +kernel
theorem dX2_hoursUntil_20 : decode cX2_hoursUntil 20 = .ok (.bipush 100, 2) := by decide +kernel
theorem dX2_hoursUntil_22 : decode cX2_hoursUntil 22 = .ok (.if_icmp .gt 29, 3) := by decide +kernel
theorem dX2_hoursUntil_25 : decode cX2_hoursUntil 25 = .ok (.aload_n 0, 1) := by decide +kernel
theorem dX2_hoursUntil_26 : decode cX2_hoursUntil 26 = .ok (.getfield 33, 3) := by decide +kernel
theorem dX2_hoursUntil_29 : decode cX2_hoursUntil 29 = .ok (.iload_n 2, 1) := by decide +kernel
theorem dX2_hoursUntil_30 : decode cX2_hoursUntil 30 = .ok (.invokevirtual 146, 3) := by decide +kernel
theorem dX2_hoursUntil_33 : decode cX2_hoursUntil 33 = .ok (.ifCond .eq 6, 3) := by decide +kernel
theorem dX2_hoursUntil_36 : decode cX2_hoursUntil 36 = .ok (.iload 4, 2) := by decide +kernel
theorem dX2_hoursUntil_38 : decode cX2_hoursUntil 38 = .ok (.ireturn, 1) := by decide +kernel
theorem dX2_hoursUntil_39 : decode cX2_hoursUntil 39 = .ok (.aload_n 0, 1) := by decide +kernel
theorem dX2_hoursUntil_40 : decode cX2_hoursUntil 40 = .ok (.iload 4, 2) := by decide +kernel
theorem dX2_hoursUntil_42 : decode cX2_hoursUntil 42 = .ok (.invokevirtual 149, 3) := by decide +kernel
theorem dX2_hoursUntil_45 : decode cX2_hoursUntil 45 = .ok (.iinc 4 1, 3) := by decide +kernel
theorem dX2_hoursUntil_48 : decode cX2_hoursUntil 48 = .ok (.goto (-30), 3) := by decide +kernel
theorem dX2_hoursUntil_51 : decode cX2_hoursUntil 51 = .ok (.iconst (-1), 1) := by decide +kernel
theorem dX2_hoursUntil_52 : decode cX2_hoursUntil 52 = .ok (.ireturn, 1) := by decide +kernel
theorem dX2_grantedIn_0 : decode cX2_grantedIn 0 = .ok (.aload_n 0, 1) := by decide +kernel
theorem dX2_grantedIn_1 : decode cX2_grantedIn 1 = .ok (.iload_n 1, 1) := by decide +kernel
theorem dX2_grantedIn_2 : decode cX2_grantedIn 2 = .ok (.invokevirtual 68, 3) := by decide +kernel
theorem dX2_grantedIn_5 : decode cX2_grantedIn 5 = .ok (.astore 4, 2) := by decide +kernel
theorem dX2_grantedIn_7 : decode cX2_grantedIn 7 = .ok (.iload_n 2, 1) := by decide +kernel
theorem dX2_grantedIn_8 : decode cX2_grantedIn 8 = .ok (.invokestatic 82, 3) := by decide +kernel
theorem dX2_grantedIn_11 : decode cX2_grantedIn 11 = .ok (.iload_n 3, 1) := by decide +kernel
theorem dX2_grantedIn_12 : decode cX2_grantedIn 12 = .ok (.iconst 1, 1) := by decide +kernel
theorem dX2_grantedIn_13 : decode cX2_grantedIn 13 = .ok (.bipush 60, 2) := by decide +kernel
theorem dX2_grantedIn_15 : decode cX2_grantedIn 15 = .ok (.invokestatic 37, 3) := by decide +kernel
theorem dX2_grantedIn_18 : decode cX2_grantedIn 18 = .ok (.aload_n 0, 1) := by decide +kernel
theorem dX2_grantedIn_19 : decode cX2_grantedIn 19 = .ok (.aload 4, 2) := by decide +kernel
theorem dX2_grantedIn_21 : decode cX2_grantedIn 21 = .ok (.invokevirtual 142, 3) := by decide +kernel
theorem dX2_grantedIn_24 : decode cX2_grantedIn 24 = .ok (.aload_n 0, 1) := by decide +kernel
theorem dX2_grantedIn_25 : decode cX2_grantedIn 25 = .ok (.iload_n 2, 1) := by decide +kernel
theorem dX2_grantedIn_26 : decode cX2_grantedIn 26 = .ok (.iload_n 3, 1) := by decide +kernel
theorem dX2_grantedIn_27 : decode cX2_grantedIn 27 = .ok (.invokevirtual 152, 3) := by decide +kernel
theorem dX2_grantedIn_30 : decode cX2_grantedIn 30 = .ok (.ireturn, 1) := by decide +kernel
theorem dX2_fallWanted_0 : decode cX2_fallWanted 0 = .ok (.aload_n 0, 1) := by decide +kernel
theorem dX2_fallWanted_1 : decode cX2_fallWanted 1 = .ok (.iload_n 1, 1) := by decide +kernel
theorem dX2_fallWanted_2 : decode cX2_fallWanted 2 = .ok (.invokevirtual 68, 3) := by decide +kernel
theorem dX2_fallWanted_5 : decode cX2_fallWanted 5 = .ok (.astore_n 3, 1) := by decide +kernel
theorem dX2_fallWanted_6 : decode cX2_fallWanted 6 = .ok (.iload_n 2, 1) := by decide +kernel
theorem dX2_fallWanted_7 : decode cX2_fallWanted 7 = .ok (.invokestatic 82, 3) := by decide +kernel
theorem dX2_fallWanted_10 : decode cX2_fallWanted 10 = .ok (.iconst 0, 1) := by decide +kernel
theorem dX2_fallWanted_11 : decode cX2_fallWanted 11 = .ok (.istore 4, 2) := by decide +kernel
theorem dX2_fallWanted_13 : decode cX2_fallWanted 13 = .ok (.iload 4, 2) := by decide +kernel
theorem dX2_fallWanted_15 : decode cX2_fallWanted 15 = .ok (.bipush 20, 2) := by decide +kernel
theorem dX2_fallWanted_17 : decode cX2_fallWanted 17 = .ok (.if_icmp .gt 38, 3) := by decide +kernel
theorem dX2_fallWanted_20 : decode cX2_fallWanted 20 = .ok (.aload_n 0, 1) := by decide +kernel
theorem dX2_fallWanted_21 : decode cX2_fallWanted 21 = .ok (.aload_n 3, 1) := by decide +kernel
theorem dX2_fallWanted_22 : decode cX2_fallWanted 22 = .ok (.invokevirtual 142, 3) := by decide +kernel
theorem dX2_fallWanted_25 : decode cX2_fallWanted 25 = .ok (.aload_n 0, 1) := by decide +kernel
theorem dX2_fallWanted_26 : decode cX2_fallWanted 26 = .ok (.getfield 24, 3) := by decide +kernel
theorem dX2_fallWanted_29 : decode cX2_fallWanted 29 = .ok (.iload 4, 2) := by decide +kernel
theorem dX2_fallWanted_31 : decode cX2_fallWanted 31 = .ok (.putfield 79, 3) := by decide +kernel
theorem dX2_fallWanted_34 : decode cX2_fallWanted 34 = .ok (.aload_n 0, 1) := by decide +kernel
theorem dX2_fallWanted_35 : decode cX2_fallWanted 35 = .ok (.iload_n 2, 1) := by decide +kernel
theorem dX2_fallWanted_36 : decode cX2_fallWanted 36 = .ok (.bipush 24, 2) := by decide +kernel
theorem dX2_fallWanted_38 : decode cX2_fallWanted 38 = .ok (.invokevirtual 152, 3) := by decide +kernel
theorem dX2_fallWanted_41 : decode cX2_fallWanted 41 = .ok (.bipush 24, 2) := by decide +kernel
theorem dX2_fallWanted_43 : decode cX2_fallWanted 43 = .ok (.if_icmp .ne 6, 3) := by decide +kernel
theorem dX2_fallWanted_46 : decode cX2_fallWanted 46 = .ok (.iload 4, 2) := by decide +kernel
theorem dX2_fallWanted_48 : decode cX2_fallWanted 48 = .ok (.ireturn, 1) := by decide +kernel
theorem dX2_fallWanted_49 : decode cX2_fallWanted 49 = .ok (.iinc 4 1, 3) := by decide +kernel
theorem dX2_fallWanted_52 : decode cX2_fallWanted 52 = .ok (.goto (-39), 3) := by decide +kernel
theorem dX2_fallWanted_55 : decode cX2_fallWanted 55 = .ok (.iconst (-1), 1) := by decide +kernel
theorem dX2_fallWanted_56 : decode cX2_fallWanted 56 = .ok (.ireturn, 1) := by decide +kernel
theorem dX2_hoursUntilFull_0 : decode cX2_hoursUntilFull 0 = .ok (.aload_n 0, 1) := by decide +kernel
theorem dX2_hoursUntilFull_1 : decode cX2_hoursUntilFull 1 = .ok (.iload_n 1, 1) := by decide +kernel
theorem dX2_hoursUntilFull_2 : decode cX2_hoursUntilFull 2 = .ok (.invokevirtual 55, 3) := by decide +kernel
theorem dX2_hoursUntilFull_5 : decode cX2_hoursUntilFull 5 = .ok (.astore_n 2, 1) := by decide +kernel
theorem dX2_hoursUntilFull_6 : decode cX2_hoursUntilFull 6 = .ok (.iconst 0, 1) := by decide +kernel
theorem dX2_hoursUntilFull_7 : decode cX2_hoursUntilFull 7 = .ok (.istore_n 3, 1) := by decide +kernel
theorem dX2_hoursUntilFull_8 : decode cX2_hoursUntilFull 8 = .ok (.iload_n 3, 1) := by decide +kernel
theorem dX2_hoursUntilFull_9 : decode cX2_hoursUntilFull 9 = .ok (.bipush 100, 2) := by decide +kernel
theorem dX2_hoursUntilFull_11 : decode cX2_hoursUntilFull 11 = .ok (.if_icmp .gt 19, 3) := by decide +kernel
theorem dX2_hoursUntilFull_14 : decode cX2_hoursUntilFull 14 = .ok (.aload_n 2, 1) := by decide +kernel
theorem dX2_hoursUntilFull_15 : decode cX2_hoursUntilFull 15 = .ok (.iload_n 3, 1) := by decide +kernel
theorem dX2_hoursUntilFull_16 : decode cX2_hoursUntilFull 16 = .ok (.invokevirtual 155, 3) := by decide +kernel
theorem dX2_hoursUntilFull_19 : decode cX2_hoursUntilFull 19 = .ok (.ifCond .eq 5, 3) := by decide +kernel
theorem dX2_hoursUntilFull_22 : decode cX2_hoursUntilFull 22 = .ok (.iload_n 3, 1) := by decide +kernel
theorem dX2_hoursUntilFull_23 : decode cX2_hoursUntilFull 23 = .ok (.ireturn, 1) := by decide +kernel
theorem dX2_hoursUntilFull_24 : decode cX2_hoursUntilFull 24 = .ok (.iinc 3 1, 3) := by decide +kernel
theorem dX2_hoursUntilFull_27 : decode cX2_hoursUntilFull 27 = .ok (.goto (-19), 3) := by decide +kernel
theorem dX2_hoursUntilFull_30 : decode cX2_hoursUntilFull 30 = .ok (.iconst (-1), 1) := by decide +kernel
theorem dX2_hoursUntilFull_31 : decode cX2_hoursUntilFull 31 = .ok (.ireturn, 1) := by decide +kernel
theorem dX2_bestChild_0 : decode cX2_bestChild 0 = .ok (.iload_n 1, 1) := by decide +kernel
theorem dX2_bestChild_1 : decode cX2_bestChild 1 = .ok (.invokestatic 82, 3) := by decide +kernel
theorem dX2_bestChild_4 : decode cX2_bestChild 4 = .ok (.iconst (-1), 1) := by decide +kernel
theorem dX2_bestChild_5 : decode cX2_bestChild 5 = .ok (.istore_n 2, 1) := by decide +kernel
theorem dX2_bestChild_6 : decode cX2_bestChild 6 = .ok (.iconst (-1), 1) := by decide +kernel
theorem dX2_bestChild_7 : decode cX2_bestChild 7 = .ok (.istore_n 3, 1) := by decide +kernel
theorem dX2_bestChild_8 : decode cX2_bestChild 8 = .ok (.iconst 0, 1) := by decide +kernel
theorem dX2_bestChild_9 : decode cX2_bestChild 9 = .ok (.istore 4, 2) := by decide +kernel
theorem dX2_bestChild_11 : decode cX2_bestChild 11 = .ok (.iload 4, 2) := by decide +kernel
theorem dX2_bestChild_13 : decode cX2_bestChild 13 = .ok (.aload_n 0, 1) := by decide +kernel
theorem dX2_bestChild_14 : decode cX2_bestChild 14 = .ok (.getfield 16, 3) := by decide +kernel
theorem dX2_bestChild_17 : decode cX2_bestChild 17 = .ok (.invokevirtual 40, 3) := by decide +kernel
theorem dX2_bestChild_20 : decode cX2_bestChild 20 = .ok (.if_icmp .ge 52, 3) := by decide +kernel
theorem dX2_bestChild_23 : decode cX2_bestChild 23 = .ok (.aload_n 0, 1) := by decide +kernel
theorem dX2_bestChild_24 : decode cX2_bestChild 24 = .ok (.getfield 16, 3) := by decide +kernel
theorem dX2_bestChild_27 : decode cX2_bestChild 27 = .ok (.iload 4, 2) := by decide +kernel
theorem dX2_bestChild_29 : decode cX2_bestChild 29 = .ok (.invokevirtual 104, 3) := by decide +kernel
theorem dX2_bestChild_32 : decode cX2_bestChild 32 = .ok (.checkcast 28, 3) := by decide +kernel
theorem dX2_bestChild_35 : decode cX2_bestChild 35 = .ok (.astore 5, 2) := by decide +kernel
theorem dX2_bestChild_37 : decode cX2_bestChild 37 = .ok (.aload 5, 2) := by decide +kernel
theorem dX2_bestChild_39 : decode cX2_bestChild 39 = .ok (.iload_n 1, 1) := by decide +kernel
theorem dX2_bestChild_40 : decode cX2_bestChild 40 = .ok (.invokevirtual 146, 3) := by decide +kernel
theorem dX2_bestChild_43 : decode cX2_bestChild 43 = .ok (.ifCond .eq 23, 3) := by decide +kernel
theorem dX2_bestChild_46 : decode cX2_bestChild 46 = .ok (.aload 5, 2) := by decide +kernel
theorem dX2_bestChild_48 : decode cX2_bestChild 48 = .ok (.iload_n 1, 1) := by decide +kernel
theorem dX2_bestChild_49 : decode cX2_bestChild 49 = .ok (.invokevirtual 158, 3) := by decide +kernel
theorem dX2_bestChild_52 : decode cX2_bestChild 52 = .ok (.iload_n 3, 1) := by decide +kernel
theorem dX2_bestChild_53 : decode cX2_bestChild 53 = .ok (.if_icmp .le 13, 3) := by decide +kernel
theorem dX2_bestChild_56 : decode cX2_bestChild 56 = .ok (.iload 4, 2) := by decide +kernel
theorem dX2_bestChild_58 : decode cX2_bestChild 58 = .ok (.istore_n 2, 1) := by decide +kernel
theorem dX2_bestChild_59 : decode cX2_bestChild 59 = .ok (.aload 5, 2) := by decide +kernel
theorem dX2_bestChild_61 : decode cX2_bestChild 61 = .ok (.iload_n 1, 1) := by decide +kernel
theorem dX2_bestChild_62 : decode cX2_bestChild 62 = .ok (.invokevirtual 158, 3) := by decide +kernel
theorem dX2_bestChild_65 : decode cX2_bestChild 65 = .ok (.istore_n 3, 1) := by decide +kernel
theorem dX2_bestChild_66 : decode cX2_bestChild 66 = .ok (.iinc 4 1, 3) := by decide +kernel
theorem dX2_bestChild_69 : decode cX2_bestChild 69 = .ok (.goto (-58), 3) := by decide +kernel
theorem dX2_bestChild_72 : decode cX2_bestChild 72 = .ok (.iload_n 2, 1) := by decide +kernel
theorem dX2_bestChild_73 : decode cX2_bestChild 73 = .ok (.ireturn, 1) := by decide +kernel
theorem dX2_share_0 : decode cX2_share 0 = .ok (.aload_n 0, 1) := by decide +kernel
theorem dX2_share_1 : decode cX2_share 1 = .ok (.getfield 89, 3) := by decide +kernel
theorem dX2_share_4 : decode cX2_share 4 = .ok (.aload_n 0, 1) := by decide +kernel
theorem dX2_share_5 : decode cX2_share 5 = .ok (.getfield 92, 3) := by decide +kernel
theorem dX2_share_8 : decode cX2_share 8 = .ok (.iadd, 1) := by decide +kernel
theorem dX2_share_9 : decode cX2_share 9 = .ok (.istore_n 1, 1) := by decide +kernel
theorem dX2_share_10 : decode cX2_share 10 = .ok (.iload_n 1, 1) := by decide +kernel
theorem dX2_share_11 : decode cX2_share 11 = .ok (.ifCond .ne 5, 3) := by decide +kernel
theorem dX2_share_14 : decode cX2_share 14 = .ok (.dconst 0, 1) := by decide +kernel
theorem dX2_share_15 : decode cX2_share 15 = .ok (.dreturn, 1) := by decide +kernel
theorem dX2_share_16 : decode cX2_share 16 = .ok (.aload_n 0, 1) := by decide +kernel
theorem dX2_share_17 : decode cX2_share 17 = .ok (.getfield 89, 3) := by decide +kernel
theorem dX2_share_20 : decode cX2_share 20 = .ok (.i2d, 1) := by decide +kernel
theorem dX2_share_21 : decode cX2_share 21 = .ok (.iload_n 1, 1) := by decide +kernel
theorem dX2_share_22 : decode cX2_share 22 = .ok (.i2d, 1) := by decide +kernel
theorem dX2_share_23 : decode cX2_share 23 = .ok (.ddiv, 1) := by decide +kernel
theorem dX2_share_24 : decode cX2_share 24 = .ok (.dreturn, 1) := by decide +kernel
theorem dX2_digest_0 : decode cX2_digest 0 = .ok (.ldc2_w 162, 3) := by decide +kernel
theorem dX2_digest_3 : decode cX2_digest 3 = .ok (.lstore_n 1, 1) := by decide +kernel
theorem dX2_digest_4 : decode cX2_digest 4 = .ok (.lload_n 1, 1) := by decide +kernel
theorem dX2_digest_5 : decode cX2_digest 5 = .ok (.aload_n 0, 1) := by decide +kernel
theorem dX2_digest_6 : decode cX2_digest 6 = .ok (.invokevirtual 164, 3) := by decide +kernel
theorem dX2_digest_9 : decode cX2_digest 9 = .ok (.invokestatic 166, 3) := by decide +kernel
theorem dX2_digest_12 : decode cX2_digest 12 = .ok (.lstore_n 1, 1) := by decide +kernel
theorem dX2_digest_13 : decode cX2_digest 13 = .ok (.lload_n 1, 1) := by decide +kernel
theorem dX2_digest_14 : decode cX2_digest 14 = .ok (.aload_n 0, 1) := by decide +kernel
theorem dX2_digest_15 : decode cX2_digest 15 = .ok (.invokevirtual 61, 3) := by decide +kernel
theorem dX2_digest_18 : decode cX2_digest 18 = .ok (.invokestatic 166, 3) := by decide +kernel
theorem dX2_digest_21 : decode cX2_digest 21 = .ok (.lstore_n 1, 1) := by decide +kernel
theorem dX2_digest_22 : decode cX2_digest 22 = .ok (.lload_n 1, 1) := by decide +kernel
theorem dX2_digest_23 : decode cX2_digest 23 = .ok (.aload_n 0, 1) := by decide +kernel
theorem dX2_digest_24 : decode cX2_digest 24 = .ok (.invokevirtual 170, 3) := by decide +kernel
theorem dX2_digest_27 : decode cX2_digest 27 = .ok (.invokestatic 166, 3) := by decide +kernel
theorem dX2_digest_30 : decode cX2_digest 30 = .ok (.lstore_n 1, 1) := by decide +kernel
theorem dX2_digest_31 : decode cX2_digest 31 = .ok (.lload_n 1, 1) := by decide +kernel
theorem dX2_digest_32 : decode cX2_digest 32 = .ok (.aload_n 0, 1) := by decide +kernel
theorem dX2_digest_33 : decode cX2_digest 33 = .ok (.invokevirtual 172, 3) := by decide +kernel
theorem dX2_digest_36 : decode cX2_digest 36 = .ok (.invokestatic 166, 3) := by decide +kernel
theorem dX2_digest_39 : decode cX2_digest 39 = .ok (.lstore_n 1, 1) := by decide +kernel
theorem dX2_digest_40 : decode cX2_digest 40 = .ok (.lload_n 1, 1) := by decide +kernel
theorem dX2_digest_41 : decode cX2_digest 41 = .ok (.aload_n 0, 1) := by decide +kernel
theorem dX2_digest_42 : decode cX2_digest 42 = .ok (.invokevirtual 174, 3) := by decide +kernel
theorem dX2_digest_45 : decode cX2_digest 45 = .ok (.invokestatic 166, 3) := by decide +kernel
theorem dX2_digest_48 : decode cX2_digest 48 = .ok (.lstore_n 1, 1) := by decide +kernel
theorem dX2_digest_49 : decode cX2_digest 49 = .ok (.lload_n 1, 1) := by decide +kernel
theorem dX2_digest_50 : decode cX2_digest 50 = .ok (.aload_n 0, 1) := by decide +kernel
theorem dX2_digest_51 : decode cX2_digest 51 = .ok (.invokevirtual 176, 3) := by decide +kernel
theorem dX2_digest_54 : decode cX2_digest 54 = .ok (.invokestatic 166, 3) := by decide +kernel
theorem dX2_digest_57 : decode cX2_digest 57 = .ok (.lstore_n 1, 1) := by decide +kernel
theorem dX2_digest_58 : decode cX2_digest 58 = .ok (.lload_n 1, 1) := by decide +kernel
theorem dX2_digest_59 : decode cX2_digest 59 = .ok (.aload_n 0, 1) := by decide +kernel
theorem dX2_digest_60 : decode cX2_digest 60 = .ok (.invokevirtual 178, 3) := by decide +kernel
theorem dX2_digest_63 : decode cX2_digest 63 = .ok (.invokestatic 166, 3) := by decide +kernel
theorem dX2_digest_66 : decode cX2_digest 66 = .ok (.lstore_n 1, 1) := by decide +kernel
theorem dX2_digest_67 : decode cX2_digest 67 = .ok (.lload_n 1, 1) := by decide +kernel
theorem dX2_digest_68 : decode cX2_digest 68 = .ok (.aload_n 0, 1) := by decide +kernel
theorem dX2_digest_69 : decode cX2_digest 69 = .ok (.iconst 5, 1) := by decide +kernel
theorem dX2_digest_70 : decode cX2_digest 70 = .ok (.invokevirtual 181, 3) := by decide +kernel
theorem dX2_digest_73 : decode cX2_digest 73 = .ok (.invokestatic 166, 3) := by decide +kernel
theorem dX2_digest_76 : decode cX2_digest 76 = .ok (.lstore_n 1, 1) := by decide +kernel
theorem dX2_digest_77 : decode cX2_digest 77 = .ok (.iconst 0, 1) := by decide +kernel
theorem dX2_digest_78 : decode cX2_digest 78 = .ok (.istore_n 3, 1) := by decide +kernel
theorem dX2_digest_79 : decode cX2_digest 79 = .ok (.iload_n 3, 1) := by decide +kernel
theorem dX2_digest_80 : decode cX2_digest 80 = .ok (.aload_n 0, 1) := by decide +kernel
theorem dX2_digest_81 : decode cX2_digest 81 = .ok (.getfield 10, 3) := by decide +kernel
theorem dX2_digest_84 : decode cX2_digest 84 = .ok (.invokevirtual 40, 3) := by decide +kernel
theorem dX2_digest_87 : decode cX2_digest 87 = .ok (.if_icmp .ge 16, 3) := by decide +kernel
theorem dX2_digest_90 : decode cX2_digest 90 = .ok (.aload_n 0, 1) := by decide +kernel
theorem dX2_digest_91 : decode cX2_digest 91 = .ok (.lload_n 1, 1) := by decide +kernel
theorem dX2_digest_92 : decode cX2_digest 92 = .ok (.iload_n 3, 1) := by decide +kernel
theorem dX2_digest_93 : decode cX2_digest 93 = .ok (.invokevirtual 184, 3) := by decide +kernel
theorem dX2_digest_96 : decode cX2_digest 96 = .ok (.lstore_n 1, 1) := by decide +kernel
theorem dX2_digest_97 : decode cX2_digest 97 = .ok (.iinc 3 1, 3) := by decide +kernel
theorem dX2_digest_100 : decode cX2_digest 100 = .ok (.goto (-21), 3) := by decide +kernel
theorem dX2_digest_103 : decode cX2_digest 103 = .ok (.iconst 0, 1) := by decide +kernel
theorem dX2_digest_104 : decode cX2_digest 104 = .ok (.istore_n 3, 1) := by decide +kernel
theorem dX2_digest_105 : decode cX2_digest 105 = .ok (.iload_n 3, 1) := by decide +kernel
theorem dX2_digest_106 : decode cX2_digest 106 = .ok (.aload_n 0, 1) := by decide +kernel
theorem dX2_digest_107 : decode cX2_digest 107 = .ok (.getfield 16, 3) := by decide +kernel
theorem dX2_digest_110 : decode cX2_digest 110 = .ok (.invokevirtual 40, 3) := by decide +kernel
theorem dX2_digest_113 : decode cX2_digest 113 = .ok (.if_icmp .ge 16, 3) := by decide +kernel
theorem dX2_digest_116 : decode cX2_digest 116 = .ok (.aload_n 0, 1) := by decide +kernel
theorem dX2_digest_117 : decode cX2_digest 117 = .ok (.lload_n 1, 1) := by decide +kernel
theorem dX2_digest_118 : decode cX2_digest 118 = .ok (.iload_n 3, 1) := by decide +kernel
theorem dX2_digest_119 : decode cX2_digest 119 = .ok (.invokevirtual 187, 3) := by decide +kernel
theorem dX2_digest_122 : decode cX2_digest 122 = .ok (.lstore_n 1, 1) := by decide +kernel
theorem dX2_digest_123 : decode cX2_digest 123 = .ok (.iinc 3 1, 3) := by decide +kernel
theorem dX2_digest_126 : decode cX2_digest 126 = .ok (.goto (-21), 3) := by decide +kernel
theorem dX2_digest_129 : decode cX2_digest 129 = .ok (.lload_n 1, 1) := by decide +kernel
theorem dX2_digest_130 : decode cX2_digest 130 = .ok (.lreturn, 1) := by decide +kernel
theorem dX2_withWand_0 : decode cX2_withWand 0 = .ok (.lload_n 1, 1) := by decide +kernel
theorem dX2_withWand_1 : decode cX2_withWand 1 = .ok (.lstore 4, 2) := by decide +kernel
theorem dX2_withWand_3 : decode cX2_withWand 3 = .ok (.lload 4, 2) := by decide +kernel
theorem dX2_withWand_5 : decode cX2_withWand 5 = .ok (.aload_n 0, 1) := by decide +kernel
theorem dX2_withWand_6 : decode cX2_withWand 6 = .ok (.iload_n 3, 1) := by decide +kernel
theorem dX2_withWand_7 : decode cX2_withWand 7 = .ok (.invokevirtual 190, 3) := by decide +kernel
theorem dX2_withWand_10 : decode cX2_withWand 10 = .ok (.invokestatic 166, 3) := by decide +kernel
theorem dX2_withWand_13 : decode cX2_withWand 13 = .ok (.lstore 4, 2) := by decide +kernel
theorem dX2_withWand_15 : decode cX2_withWand 15 = .ok (.lload 4, 2) := by decide +kernel
theorem dX2_withWand_17 : decode cX2_withWand 17 = .ok (.aload_n 0, 1) := by decide +kernel
theorem dX2_withWand_18 : decode cX2_withWand 18 = .ok (.iload_n 3, 1) := by decide +kernel
theorem dX2_withWand_19 : decode cX2_withWand 19 = .ok (.invokevirtual 193, 3) := by decide +kernel
theorem dX2_withWand_22 : decode cX2_withWand 22 = .ok (.invokestatic 166, 3) := by decide +kernel
theorem dX2_withWand_25 : decode cX2_withWand 25 = .ok (.lstore 4, 2) := by decide +kernel
theorem dX2_withWand_27 : decode cX2_withWand 27 = .ok (.lload 4, 2) := by decide +kernel
theorem dX2_withWand_29 : decode cX2_withWand 29 = .ok (.aload_n 0, 1) := by decide +kernel
theorem dX2_withWand_30 : decode cX2_withWand 30 = .ok (.iload_n 3, 1) := by decide +kernel
theorem dX2_withWand_31 : decode cX2_withWand 31 = .ok (.invokevirtual 196, 3) := by decide +kernel
theorem dX2_withWand_34 : decode cX2_withWand 34 = .ok (.invokestatic 166, 3) := by decide +kernel
theorem dX2_withWand_37 : decode cX2_withWand 37 = .ok (.lstore 4, 2) := by decide +kernel
theorem dX2_withWand_39 : decode cX2_withWand 39 = .ok (.lload 4, 2) := by decide +kernel
theorem dX2_withWand_41 : decode cX2_withWand 41 = .ok (.lreturn, 1) := by decide +kernel
theorem dX2_withChild_0 : decode cX2_withChild 0 = .ok (.lload_n 1, 1) := by decide +kernel
theorem dX2_withChild_1 : decode cX2_withChild 1 = .ok (.lstore 4, 2) := by decide +kernel
theorem dX2_withChild_3 : decode cX2_withChild 3 = .ok (.lload 4, 2) := by decide +kernel
theorem dX2_withChild_5 : decode cX2_withChild 5 = .ok (.aload_n 0, 1) := by decide +kernel
theorem dX2_withChild_6 : decode cX2_withChild 6 = .ok (.iload_n 3, 1) := by decide +kernel
theorem dX2_withChild_7 : decode cX2_withChild 7 = .ok (.invokevirtual 199, 3) := by decide +kernel
theorem dX2_withChild_10 : decode cX2_withChild 10 = .ok (.invokestatic 166, 3) := by decide +kernel
theorem dX2_withChild_13 : decode cX2_withChild 13 = .ok (.lstore 4, 2) := by decide +kernel
theorem dX2_withChild_15 : decode cX2_withChild 15 = .ok (.lload 4, 2) := by decide +kernel
theorem dX2_withChild_17 : decode cX2_withChild 17 = .ok (.aload_n 0, 1) := by decide +kernel
theorem dX2_withChild_18 : decode cX2_withChild 18 = .ok (.iload_n 3, 1) := by decide +kernel
theorem dX2_withChild_19 : decode cX2_withChild 19 = .ok (.invokevirtual 202, 3) := by decide +kernel
theorem dX2_withChild_22 : decode cX2_withChild 22 = .ok (.invokestatic 166, 3) := by decide +kernel
theorem dX2_withChild_25 : decode cX2_withChild 25 = .ok (.lstore 4, 2) := by decide +kernel
theorem dX2_withChild_27 : decode cX2_withChild 27 = .ok (.lload 4, 2) := by decide +kernel
theorem dX2_withChild_29 : decode cX2_withChild 29 = .ok (.aload_n 0, 1) := by decide +kernel
theorem dX2_withChild_30 : decode cX2_withChild 30 = .ok (.iload_n 3, 1) := by decide +kernel
theorem dX2_withChild_31 : decode cX2_withChild 31 = .ok (.invokevirtual 205, 3) := by decide +kernel
theorem dX2_withChild_34 : decode cX2_withChild 34 = .ok (.invokestatic 166, 3) := by decide +kernel
theorem dX2_withChild_37 : decode cX2_withChild 37 = .ok (.lstore 4, 2) := by decide +kernel
theorem dX2_withChild_39 : decode cX2_withChild 39 = .ok (.lload 4, 2) := by decide +kernel
theorem dX2_withChild_41 : decode cX2_withChild 41 = .ok (.aload_n 0, 1) := by decide +kernel
theorem dX2_withChild_42 : decode cX2_withChild 42 = .ok (.iload_n 3, 1) := by decide +kernel
theorem dX2_withChild_43 : decode cX2_withChild 43 = .ok (.invokevirtual 208, 3) := by decide +kernel
theorem dX2_withChild_46 : decode cX2_withChild 46 = .ok (.invokestatic 166, 3) := by decide +kernel
theorem dX2_withChild_49 : decode cX2_withChild 49 = .ok (.lstore 4, 2) := by decide +kernel
theorem dX2_withChild_51 : decode cX2_withChild 51 = .ok (.lload 4, 2) := by decide +kernel
theorem dX2_withChild_53 : decode cX2_withChild 53 = .ok (.aload_n 0, 1) := by decide +kernel
theorem dX2_withChild_54 : decode cX2_withChild 54 = .ok (.iload_n 3, 1) := by decide +kernel
theorem dX2_withChild_55 : decode cX2_withChild 55 = .ok (.invokevirtual 211, 3) := by decide +kernel
theorem dX2_withChild_58 : decode cX2_withChild 58 = .ok (.invokestatic 166, 3) := by decide +kernel
theorem dX2_withChild_61 : decode cX2_withChild 61 = .ok (.lstore 4, 2) := by decide +kernel
theorem dX2_withChild_63 : decode cX2_withChild 63 = .ok (.lload 4, 2) := by decide +kernel
theorem dX2_withChild_65 : decode cX2_withChild 65 = .ok (.aload_n 0, 1) := by decide +kernel
theorem dX2_withChild_66 : decode cX2_withChild 66 = .ok (.iload_n 3, 1) := by decide +kernel
theorem dX2_withChild_67 : decode cX2_withChild 67 = .ok (.invokevirtual 214, 3) := by decide +kernel
theorem dX2_withChild_70 : decode cX2_withChild 70 = .ok (.invokestatic 166, 3) := by decide +kernel
theorem dX2_withChild_73 : decode cX2_withChild 73 = .ok (.lstore 4, 2) := by decide +kernel
theorem dX2_withChild_75 : decode cX2_withChild 75 = .ok (.lload 4, 2) := by decide +kernel
theorem dX2_withChild_77 : decode cX2_withChild 77 = .ok (.aload_n 0, 1) := by decide +kernel
theorem dX2_withChild_78 : decode cX2_withChild 78 = .ok (.iload_n 3, 1) := by decide +kernel
theorem dX2_withChild_79 : decode cX2_withChild 79 = .ok (.invokevirtual 217, 3) := by decide +kernel
theorem dX2_withChild_82 : decode cX2_withChild 82 = .ok (.invokestatic 166, 3) := by decide +kernel
theorem dX2_withChild_85 : decode cX2_withChild 85 = .ok (.lstore 4, 2) := by decide +kernel
theorem dX2_withChild_87 : decode cX2_withChild 87 = .ok (.lload 4, 2) := by decide +kernel
theorem dX2_withChild_89 : decode cX2_withChild 89 = .ok (.aload_n 0, 1) := by decide +kernel
theorem dX2_withChild_90 : decode cX2_withChild 90 = .ok (.iload_n 3, 1) := by decide +kernel
theorem dX2_withChild_91 : decode cX2_withChild 91 = .ok (.bipush 10, 2) := by decide +kernel
theorem dX2_withChild_93 : decode cX2_withChild 93 = .ok (.invokevirtual 220, 3) := by decide +kernel
theorem dX2_withChild_96 : decode cX2_withChild 96 = .ok (.invokestatic 166, 3) := by decide +kernel
theorem dX2_withChild_99 : decode cX2_withChild 99 = .ok (.lstore 4, 2) := by decide +kernel
theorem dX2_withChild_101 : decode cX2_withChild 101 = .ok (.lload 4, 2) := by decide +kernel
theorem dX2_withChild_103 : decode cX2_withChild 103 = .ok (.aload_n 0, 1) := by decide +kernel
theorem dX2_withChild_104 : decode cX2_withChild 104 = .ok (.iload_n 3, 1) := by decide +kernel
theorem dX2_withChild_105 : decode cX2_withChild 105 = .ok (.iconst 4, 1) := by decide +kernel
theorem dX2_withChild_106 : decode cX2_withChild 106 = .ok (.bipush 12, 2) := by decide +kernel
theorem dX2_withChild_108 : decode cX2_withChild 108 = .ok (.invokevirtual 223, 3) := by decide +kernel
theorem dX2_withChild_111 : decode cX2_withChild 111 = .ok (.invokestatic 166, 3) := by decide +kernel
theorem dX2_withChild_114 : decode cX2_withChild 114 = .ok (.lstore 4, 2) := by decide +kernel
theorem dX2_withChild_116 : decode cX2_withChild 116 = .ok (.lload 4, 2) := by decide +kernel
theorem dX2_withChild_118 : decode cX2_withChild 118 = .ok (.aload_n 0, 1) := by decide +kernel
theorem dX2_withChild_119 : decode cX2_withChild 119 = .ok (.iload_n 3, 1) := by decide +kernel
theorem dX2_withChild_120 : decode cX2_withChild 120 = .ok (.iconst 3, 1) := by decide +kernel
theorem dX2_withChild_121 : decode cX2_withChild 121 = .ok (.invokevirtual 227, 3) := by decide +kernel
theorem dX2_withChild_124 : decode cX2_withChild 124 = .ok (.invokestatic 166, 3) := by decide +kernel
theorem dX2_withChild_127 : decode cX2_withChild 127 = .ok (.lstore 4, 2) := by decide +kernel
theorem dX2_withChild_129 : decode cX2_withChild 129 = .ok (.lload 4, 2) := by decide +kernel
theorem dX2_withChild_131 : decode cX2_withChild 131 = .ok (.lreturn, 1) := by decide +kernel
theorem dX2_mixed_0 : decode cX2_mixed 0 = .ok (.lload_n 0, 1) := by decide +kernel
theorem dX2_mixed_1 : decode cX2_mixed 1 = .ok (.ldc2_w 230, 3) := by decide +kernel
theorem dX2_mixed_4 : decode cX2_mixed 4 = .ok (.lmul, 1) := by decide +kernel
theorem dX2_mixed_5 : decode cX2_mixed 5 = .ok (.iload_n 2, 1) := by decide +kernel
theorem dX2_mixed_6 : decode cX2_mixed 6 = .ok (.i2l, 1) := by decide +kernel
theorem dX2_mixed_7 : decode cX2_mixed 7 = .ok (.ladd, 1) := by decide +kernel
theorem dX2_mixed_8 : decode cX2_mixed 8 = .ok (.lreturn, 1) := by decide +kernel
theorem dX2_passOneHour_0 : decode cX2_passOneHour 0 = .ok (.iconst 0, 1) := by decide +kernel
theorem dX2_passOneHour_1 : decode cX2_passOneHour 1 = .ok (.istore_n 1, 1) := by decide +kernel
theorem dX2_passOneHour_2 : decode cX2_passOneHour 2 = .ok (.iconst 0, 1) := by decide +kernel
theorem dX2_passOneHour_3 : decode cX2_passOneHour 3 = .ok (.istore_n 2, 1) := by decide +kernel
theorem dX2_passOneHour_4 : decode cX2_passOneHour 4 = .ok (.iload_n 2, 1) := by decide +kernel
theorem dX2_passOneHour_5 : decode cX2_passOneHour 5 = .ok (.aload_n 0, 1) := by decide +kernel
theorem dX2_passOneHour_6 : decode cX2_passOneHour 6 = .ok (.getfield 10, 3) := by decide +kernel
theorem dX2_passOneHour_9 : decode cX2_passOneHour 9 = .ok (.invokevirtual 40, 3) := by decide +kernel
theorem dX2_passOneHour_12 : decode cX2_passOneHour 12 = .ok (.if_icmp .ge 26, 3) := by decide +kernel
theorem dX2_passOneHour_15 : decode cX2_passOneHour 15 = .ok (.iload_n 1, 1) := by decide +kernel
theorem dX2_passOneHour_16 : decode cX2_passOneHour 16 = .ok (.aload_n 0, 1) := by decide +kernel
theorem dX2_passOneHour_17 : decode cX2_passOneHour 17 = .ok (.getfield 10, 3) := by decide +kernel
theorem dX2_passOneHour_20 : decode cX2_passOneHour 20 = .ok (.iload_n 2, 1) := by decide +kernel
theorem dX2_passOneHour_21 : decode cX2_passOneHour 21 = .ok (.invokevirtual 104, 3) := by decide +kernel
theorem dX2_passOneHour_24 : decode cX2_passOneHour 24 = .ok (.checkcast 19, 3) := by decide +kernel
theorem dX2_passOneHour_27 : decode cX2_passOneHour 27 = .ok (.invokevirtual 232, 3) := by decide +kernel
theorem dX2_passOneHour_30 : decode cX2_passOneHour 30 = .ok (.iadd, 1) := by decide +kernel
theorem dX2_passOneHour_31 : decode cX2_passOneHour 31 = .ok (.istore_n 1, 1) := by decide +kernel
theorem dX2_passOneHour_32 : decode cX2_passOneHour 32 = .ok (.iinc 2 1, 3) := by decide +kernel
theorem dX2_passOneHour_35 : decode cX2_passOneHour 35 = .ok (.goto (-31), 3) := by decide +kernel
theorem dX2_passOneHour_38 : decode cX2_passOneHour 38 = .ok (.aload_n 0, 1) := by decide +kernel
theorem dX2_passOneHour_39 : decode cX2_passOneHour 39 = .ok (.dup, 1) := by decide +kernel
theorem dX2_passOneHour_40 : decode cX2_passOneHour 40 = .ok (.getfield 101, 3) := by decide +kernel
theorem dX2_passOneHour_43 : decode cX2_passOneHour 43 = .ok (.iconst 1, 1) := by decide +kernel
theorem dX2_passOneHour_44 : decode cX2_passOneHour 44 = .ok (.iadd, 1) := by decide +kernel
theorem dX2_passOneHour_45 : decode cX2_passOneHour 45 = .ok (.putfield 101, 3) := by decide +kernel
theorem dX2_passOneHour_48 : decode cX2_passOneHour 48 = .ok (.iconst 0, 1) := by decide +kernel
theorem dX2_passOneHour_49 : decode cX2_passOneHour 49 = .ok (.istore_n 2, 1) := by decide +kernel
theorem dX2_passOneHour_50 : decode cX2_passOneHour 50 = .ok (.iload_n 2, 1) := by decide +kernel
theorem dX2_passOneHour_51 : decode cX2_passOneHour 51 = .ok (.aload_n 0, 1) := by decide +kernel
theorem dX2_passOneHour_52 : decode cX2_passOneHour 52 = .ok (.getfield 16, 3) := by decide +kernel
theorem dX2_passOneHour_55 : decode cX2_passOneHour 55 = .ok (.invokevirtual 40, 3) := by decide +kernel
theorem dX2_passOneHour_58 : decode cX2_passOneHour 58 = .ok (.if_icmp .ge 27, 3) := by decide +kernel
theorem dX2_passOneHour_61 : decode cX2_passOneHour 61 = .ok (.aload_n 0, 1) := by decide +kernel
theorem dX2_passOneHour_62 : decode cX2_passOneHour 62 = .ok (.getfield 16, 3) := by decide +kernel
theorem dX2_passOneHour_65 : decode cX2_passOneHour 65 = .ok (.iload_n 2, 1) := by decide +kernel
theorem dX2_passOneHour_66 : decode cX2_passOneHour 66 = .ok (.invokevirtual 104, 3) := by decide +kernel
theorem dX2_passOneHour_69 : decode cX2_passOneHour 69 = .ok (.checkcast 28, 3) := by decide +kernel
theorem dX2_passOneHour_72 : decode cX2_passOneHour 72 = .ok (.aload_n 0, 1) := by decide +kernel
theorem dX2_passOneHour_73 : decode cX2_passOneHour 73 = .ok (.getfield 101, 3) := by decide +kernel
theorem dX2_passOneHour_76 : decode cX2_passOneHour 76 = .ok (.invokevirtual 235, 3) := by decide +kernel
theorem dX2_passOneHour_79 : decode cX2_passOneHour 79 = .ok (.iinc 2 1, 3) := by decide +kernel
theorem dX2_passOneHour_82 : decode cX2_passOneHour 82 = .ok (.goto (-32), 3) := by decide +kernel
theorem dX2_passOneHour_85 : decode cX2_passOneHour 85 = .ok (.iload_n 1, 1) := by decide +kernel
theorem dX2_passOneHour_86 : decode cX2_passOneHour 86 = .ok (.ireturn, 1) := by decide +kernel
theorem dX2_beginTrial_0 : decode cX2_beginTrial 0 = .ok (.aload_n 0, 1) := by decide +kernel
theorem dX2_beginTrial_1 : decode cX2_beginTrial 1 = .ok (.getfield 24, 3) := by decide +kernel
theorem dX2_beginTrial_4 : decode cX2_beginTrial 4 = .ok (.aload_n 1, 1) := by decide +kernel
theorem dX2_beginTrial_5 : decode cX2_beginTrial 5 = .ok (.getfield 72, 3) := by decide +kernel
theorem dX2_beginTrial_8 : decode cX2_beginTrial 8 = .ok (.invokevirtual 238, 3) := by decide +kernel
theorem dX2_beginTrial_11 : decode cX2_beginTrial 11 = .ok (.aload_n 0, 1) := by decide +kernel
theorem dX2_beginTrial_12 : decode cX2_beginTrial 12 = .ok (.getfield 33, 3) := by decide +kernel
theorem dX2_beginTrial_15 : decode cX2_beginTrial 15 = .ok (.aload_n 1, 1) := by decide +kernel
theorem dX2_beginTrial_16 : decode cX2_beginTrial 16 = .ok (.invokevirtual 242, 3) := by decide +kernel
theorem dX2_beginTrial_19 : decode cX2_beginTrial 19 = .ok (.return_, 1) := by decide +kernel
theorem dX2_passTrialHour_0 : decode cX2_passTrialHour 0 = .ok (.aload_n 0, 1) := by decide +kernel
theorem dX2_passTrialHour_1 : decode cX2_passTrialHour 1 = .ok (.getfield 24, 3) := by decide +kernel
theorem dX2_passTrialHour_4 : decode cX2_passTrialHour 4 = .ok (.invokevirtual 232, 3) := by decide +kernel
theorem dX2_passTrialHour_7 : decode cX2_passTrialHour 7 = .ok (.pop, 1) := by decide +kernel
theorem dX2_passTrialHour_8 : decode cX2_passTrialHour 8 = .ok (.aload_n 0, 1) := by decide +kernel
theorem dX2_passTrialHour_9 : decode cX2_passTrialHour 9 = .ok (.getfield 33, 3) := by decide +kernel
theorem dX2_passTrialHour_12 : decode cX2_passTrialHour 12 = .ok (.aload_n 0, 1) := by decide +kernel
theorem dX2_passTrialHour_13 : decode cX2_passTrialHour 13 = .ok (.getfield 101, 3) := by decide +kernel
theorem dX2_passTrialHour_16 : decode cX2_passTrialHour 16 = .ok (.iload_n 1, 1) := by decide +kernel
theorem dX2_passTrialHour_17 : decode cX2_passTrialHour 17 = .ok (.iadd, 1) := by decide +kernel
theorem dX2_passTrialHour_18 : decode cX2_passTrialHour 18 = .ok (.iconst 1, 1) := by decide +kernel
theorem dX2_passTrialHour_19 : decode cX2_passTrialHour 19 = .ok (.iadd, 1) := by decide +kernel
theorem dX2_passTrialHour_20 : decode cX2_passTrialHour 20 = .ok (.invokevirtual 235, 3) := by decide +kernel
theorem dX2_passTrialHour_23 : decode cX2_passTrialHour 23 = .ok (.return_, 1) := by decide +kernel
theorem dX2_tryWishes_0 : decode cX2_tryWishes 0 = .ok (.iconst 0, 1) := by decide +kernel
theorem dX2_tryWishes_1 : decode cX2_tryWishes 1 = .ok (.istore_n 3, 1) := by decide +kernel
theorem dX2_tryWishes_2 : decode cX2_tryWishes 2 = .ok (.iconst 0, 1) := by decide +kernel
theorem dX2_tryWishes_3 : decode cX2_tryWishes 3 = .ok (.istore 4, 2) := by decide +kernel
theorem dX2_tryWishes_5 : decode cX2_tryWishes 5 = .ok (.iload 4, 2) := by decide +kernel
theorem dX2_tryWishes_7 : decode cX2_tryWishes 7 = .ok (.iload_n 2, 1) := by decide +kernel
theorem dX2_tryWishes_8 : decode cX2_tryWishes 8 = .ok (.if_icmp .ge 29, 3) := by decide +kernel
theorem dX2_tryWishes_11 : decode cX2_tryWishes 11 = .ok (.aload_n 0, 1) := by decide +kernel
theorem dX2_tryWishes_12 : decode cX2_tryWishes 12 = .ok (.getfield 33, 3) := by decide +kernel
theorem dX2_tryWishes_15 : decode cX2_tryWishes 15 = .ok (.iload_n 1, 1) := by decide +kernel
theorem dX2_tryWishes_16 : decode cX2_tryWishes 16 = .ok (.invokevirtual 85, 3) := by decide +kernel
theorem dX2_tryWishes_19 : decode cX2_tryWishes 19 = .ok (.ifCond .eq 6, 3) := by decide +kernel
theorem dX2_tryWishes_22 : decode cX2_tryWishes 22 = .ok (.iinc 3 1, 3) := by decide +kernel
theorem dX2_tryWishes_25 : decode cX2_tryWishes 25 = .ok (.aload_n 0, 1) := by decide +kernel
theorem dX2_tryWishes_26 : decode cX2_tryWishes 26 = .ok (.iload 4, 2) := by decide +kernel
theorem dX2_tryWishes_28 : decode cX2_tryWishes 28 = .ok (.invokevirtual 149, 3) := by decide +kernel
theorem dX2_tryWishes_31 : decode cX2_tryWishes 31 = .ok (.iinc 4 1, 3) := by decide +kernel
theorem dX2_tryWishes_34 : decode cX2_tryWishes 34 = .ok (.goto (-29), 3) := by decide +kernel
theorem dX2_tryWishes_37 : decode cX2_tryWishes 37 = .ok (.iload_n 3, 1) := by decide +kernel
theorem dX2_tryWishes_38 : decode cX2_tryWishes 38 = .ok (.ireturn, 1) := by decide +kernel
theorem dX2_wandAt_0 : decode cX2_wandAt 0 = .ok (.iload_n 1, 1) := by decide +kernel
theorem dX2_wandAt_1 : decode cX2_wandAt 1 = .ok (.ifCond .lt 14, 3) := by decide +kernel
theorem dX2_wandAt_4 : decode cX2_wandAt 4 = .ok (.iload_n 1, 1) := by decide +kernel
theorem dX2_wandAt_5 : decode cX2_wandAt 5 = .ok (.aload_n 0, 1) := by decide +kernel
theorem dX2_wandAt_6 : decode cX2_wandAt 6 = .ok (.getfield 10, 3) := by decide +kernel
theorem dX2_wandAt_9 : decode cX2_wandAt 9 = .ok (.invokevirtual 40, 3) := by decide +kernel
theorem dX2_wandAt_12 : decode cX2_wandAt 12 = .ok (.if_icmp .lt 13, 3) := by decide +kernel
theorem dX2_wandAt_15 : decode cX2_wandAt 15 = .ok (.new 244, 3) := by decide +kernel
theorem dX2_wandAt_18 : decode cX2_wandAt 18 = .ok (.dup, 1) := by decide +kernel
theorem dX2_wandAt_19 : decode cX2_wandAt 19 = .ok (.ldc 246, 2) := by decide +kernel
theorem dX2_wandAt_21 : decode cX2_wandAt 21 = .ok (.invokespecial 248, 3) := by decide +kernel
theorem dX2_wandAt_24 : decode cX2_wandAt 24 = .ok (.athrow, 1) := by decide +kernel
theorem dX2_wandAt_25 : decode cX2_wandAt 25 = .ok (.aload_n 0, 1) := by decide +kernel
theorem dX2_wandAt_26 : decode cX2_wandAt 26 = .ok (.getfield 10, 3) := by decide +kernel
theorem dX2_wandAt_29 : decode cX2_wandAt 29 = .ok (.iload_n 1, 1) := by decide +kernel
theorem dX2_wandAt_30 : decode cX2_wandAt 30 = .ok (.invokevirtual 104, 3) := by decide +kernel
theorem dX2_wandAt_33 : decode cX2_wandAt 33 = .ok (.checkcast 19, 3) := by decide +kernel
theorem dX2_wandAt_36 : decode cX2_wandAt 36 = .ok (.areturn, 1) := by decide +kernel
theorem dX2_childAt_0 : decode cX2_childAt 0 = .ok (.iload_n 1, 1) := by decide +kernel
theorem dX2_childAt_1 : decode cX2_childAt 1 = .ok (.ifCond .lt 14, 3) := by decide +kernel
theorem dX2_childAt_4 : decode cX2_childAt 4 = .ok (.iload_n 1, 1) := by decide +kernel
theorem dX2_childAt_5 : decode cX2_childAt 5 = .ok (.aload_n 0, 1) := by decide +kernel
theorem dX2_childAt_6 : decode cX2_childAt 6 = .ok (.getfield 16, 3) := by decide +kernel
theorem dX2_childAt_9 : decode cX2_childAt 9 = .ok (.invokevirtual 40, 3) := by decide +kernel
theorem dX2_childAt_12 : decode cX2_childAt 12 = .ok (.if_icmp .lt 13, 3) := by decide +kernel
theorem dX2_childAt_15 : decode cX2_childAt 15 = .ok (.new 244, 3) := by decide +kernel
theorem dX2_childAt_18 : decode cX2_childAt 18 = .ok (.dup, 1) := by decide +kernel
theorem dX2_childAt_19 : decode cX2_childAt 19 = .ok (.ldc 249, 2) := by decide +kernel
theorem dX2_childAt_21 : decode cX2_childAt 21 = .ok (.invokespecial 248, 3) := by decide +kernel
theorem dX2_childAt_24 : decode cX2_childAt 24 = .ok (.athrow, 1) := by decide +kernel
theorem dX2_childAt_25 : decode cX2_childAt 25 = .ok (.aload_n 0, 1) := by decide +kernel
theorem dX2_childAt_26 : decode cX2_childAt 26 = .ok (.getfield 16, 3) := by decide +kernel
theorem dX2_childAt_29 : decode cX2_childAt 29 = .ok (.iload_n 1, 1) := by decide +kernel
theorem dX2_childAt_30 : decode cX2_childAt 30 = .ok (.invokevirtual 104, 3) := by decide +kernel
theorem dX2_childAt_33 : decode cX2_childAt 33 = .ok (.checkcast 28, 3) := by decide +kernel
theorem dX2_childAt_36 : decode cX2_childAt 36 = .ok (.areturn, 1) := by decide +kernel
theorem dX2_needSize_0 : decode cX2_needSize 0 = .ok (.iload_n 0, 1) := by decide +kernel
theorem dX2_needSize_1 : decode cX2_needSize 1 = .ok (.iconst 1, 1) := by decide +kernel
theorem dX2_needSize_2 : decode cX2_needSize 2 = .ok (.bipush 20, 2) := by decide +kernel
theorem dX2_needSize_4 : decode cX2_needSize 4 = .ok (.invokestatic 37, 3) := by decide +kernel
theorem dX2_needSize_7 : decode cX2_needSize 7 = .ok (.return_, 1) := by decide +kernel
theorem dX2_needWithin_0 : decode cX2_needWithin 0 = .ok (.iload_n 0, 1) := by decide +kernel
theorem dX2_needWithin_1 : decode cX2_needWithin 1 = .ok (.iload_n 1, 1) := by decide +kernel
theorem dX2_needWithin_2 : decode cX2_needWithin 2 = .ok (.if_icmp .lt 8, 3) := by decide +kernel
theorem dX2_needWithin_5 : decode cX2_needWithin 5 = .ok (.iload_n 0, 1) := by decide +kernel
theorem dX2_needWithin_6 : decode cX2_needWithin 6 = .ok (.iload_n 2, 1) := by decide +kernel
theorem dX2_needWithin_7 : decode cX2_needWithin 7 = .ok (.if_icmp .le 13, 3) := by decide +kernel
theorem dX2_needWithin_10 : decode cX2_needWithin 10 = .ok (.new 251, 3) := by decide +kernel
theorem dX2_needWithin_13 : decode cX2_needWithin 13 = .ok (.dup, 1) := by decide +kernel
theorem dX2_needWithin_14 : decode cX2_needWithin 14 = .ok (.ldc 253, 2) := by decide +kernel
theorem dX2_needWithin_16 : decode cX2_needWithin 16 = .ok (.invokespecial 255, 3) := by decide +kernel
theorem dX2_needWithin_19 : decode cX2_needWithin 19 = .ok (.athrow, 1) := by decide +kernel
theorem dX2_needWithin_20 : decode cX2_needWithin 20 = .ok (.return_, 1) := by decide +kernel
theorem dJ9_floorMod_7cf53_0 : decode cJ9_floorMod_7cf53 0 = .ok (.iload_n 0, 1) := by decide +kernel
theorem dJ9_floorMod_7cf53_1 : decode cJ9_floorMod_7cf53 1 = .ok (.iload_n 1, 1) := by decide +kernel
theorem dJ9_floorMod_7cf53_2 : decode cJ9_floorMod_7cf53 2 = .ok (.irem, 1) := by decide +kernel
theorem dJ9_floorMod_7cf53_3 : decode cJ9_floorMod_7cf53 3 = .ok (.istore_n 2, 1) := by decide +kernel
theorem dJ9_floorMod_7cf53_4 : decode cJ9_floorMod_7cf53 4 = .ok (.iload_n 0, 1) := by decide +kernel
theorem dJ9_floorMod_7cf53_5 : decode cJ9_floorMod_7cf53 5 = .ok (.iload_n 1, 1) := by decide +kernel
theorem dJ9_floorMod_7cf53_6 : decode cJ9_floorMod_7cf53 6 = .ok (.ixor, 1) := by decide +kernel
theorem dJ9_floorMod_7cf53_7 : decode cJ9_floorMod_7cf53 7 = .ok (.ifCond .ge 11, 3) := by decide +kernel
theorem dJ9_floorMod_7cf53_10 : decode cJ9_floorMod_7cf53 10 = .ok (.iload_n 2, 1) := by decide +kernel
theorem dJ9_floorMod_7cf53_11 : decode cJ9_floorMod_7cf53 11 = .ok (.ifCond .eq 7, 3) := by decide +kernel
theorem dJ9_floorMod_7cf53_14 : decode cJ9_floorMod_7cf53 14 = .ok (.iload_n 2, 1) := by decide +kernel
theorem dJ9_floorMod_7cf53_15 : decode cJ9_floorMod_7cf53 15 = .ok (.iload_n 1, 1) := by decide +kernel
theorem dJ9_floorMod_7cf53_16 : decode cJ9_floorMod_7cf53 16 = .ok (.iadd, 1) := by decide +kernel
theorem dJ9_floorMod_7cf53_17 : decode cJ9_floorMod_7cf53 17 = .ok (.ireturn, 1) := by decide +kernel
theorem dJ9_floorMod_7cf53_18 : decode cJ9_floorMod_7cf53 18 = .ok (.iload_n 2, 1) := by decide +kernel
theorem dJ9_floorMod_7cf53_19 : decode cJ9_floorMod_7cf53 19 = .ok (.ireturn, 1) := by decide +kernel
theorem dJ9_max_7cf53_0 : decode cJ9_max_7cf53 0 = .ok (.iload_n 0, 1) := by decide +kernel
theorem dJ9_max_7cf53_1 : decode cJ9_max_7cf53 1 = .ok (.iload_n 1, 1) := by decide +kernel
theorem dJ9_max_7cf53_2 : decode cJ9_max_7cf53 2 = .ok (.if_icmp .lt 7, 3) := by decide +kernel
theorem dJ9_max_7cf53_5 : decode cJ9_max_7cf53 5 = .ok (.iload_n 0, 1) := by decide +kernel
theorem dJ9_max_7cf53_6 : decode cJ9_max_7cf53 6 = .ok (.goto 4, 3) := by decide +kernel
theorem dJ9_max_7cf53_9 : decode cJ9_max_7cf53 9 = .ok (.iload_n 1, 1) := by decide +kernel
theorem dJ9_max_7cf53_10 : decode cJ9_max_7cf53 10 = .ok (.ireturn, 1) := by decide +kernel
theorem dJ9_min_7cf53_0 : decode cJ9_min_7cf53 0 = .ok (.iload_n 0, 1) := by decide +kernel
theorem dJ9_min_7cf53_1 : decode cJ9_min_7cf53 1 = .ok (.iload_n 1, 1) := by decide +kernel
theorem dJ9_min_7cf53_2 : decode cJ9_min_7cf53 2 = .ok (.if_icmp .gt 7, 3) := by decide +kernel
theorem dJ9_min_7cf53_5 : decode cJ9_min_7cf53 5 = .ok (.iload_n 0, 1) := by decide +kernel
theorem dJ9_min_7cf53_6 : decode cJ9_min_7cf53 6 = .ok (.goto 4, 3) := by decide +kernel
theorem dJ9_min_7cf53_9 : decode cJ9_min_7cf53 9 = .ok (.iload_n 1, 1) := by decide +kernel
theorem dJ9_min_7cf53_10 : decode cJ9_min_7cf53 10 = .ok (.ireturn, 1) := by decide +kernel
theorem dJxa1e45_init_da8c8_0 : decode cJxa1e45_init_da8c8 0 = .ok (.aload_n 0, 1) := by decide +kernel
theorem dJxa1e45_init_da8c8_1 : decode cJxa1e45_init_da8c8 1 = .ok (.invokespecial 1, 3) := by decide +kernel
theorem dJxa1e45_init_da8c8_4 : decode cJxa1e45_init_da8c8 4 = .ok (.return_, 1) := by decide +kernel
theorem dJxc12de_init_da8c8_0 : decode cJxc12de_init_da8c8 0 = .ok (.aload_n 0, 1) := by decide +kernel
theorem dJxc12de_init_da8c8_1 : decode cJxc12de_init_da8c8 1 = .ok (.invokespecial 1, 3) := by decide +kernel
theorem dJxc12de_init_da8c8_4 : decode cJxc12de_init_da8c8 4 = .ok (.aload_n 0, 1) := by decide +kernel
theorem dJxc12de_init_da8c8_5 : decode cJxc12de_init_da8c8 5 = .ok (.iconst 0, 1) := by decide +kernel
theorem dJxc12de_init_da8c8_6 : decode cJxc12de_init_da8c8 6 = .ok (.putfield 7, 3) := by decide +kernel
theorem dJxc12de_init_da8c8_9 : decode cJxc12de_init_da8c8 9 = .ok (.return_, 1) := by decide +kernel
theorem dJx4a65c_init_da8c8_0 : decode cJx4a65c_init_da8c8 0 = .ok (.aload_n 0, 1) := by decide +kernel
theorem dJx4a65c_init_da8c8_1 : decode cJx4a65c_init_da8c8 1 = .ok (.invokespecial 1, 3) := by decide +kernel
theorem dJx4a65c_init_da8c8_4 : decode cJx4a65c_init_da8c8 4 = .ok (.aload_n 0, 1) := by decide +kernel
theorem dJx4a65c_init_da8c8_5 : decode cJx4a65c_init_da8c8 5 = .ok (.getstatic 39, 3) := by decide +kernel
theorem dJx4a65c_init_da8c8_8 : decode cJx4a65c_init_da8c8 8 = .ok (.putfield 9, 3) := by decide +kernel
theorem dJx4a65c_init_da8c8_11 : decode cJx4a65c_init_da8c8 11 = .ok (.return_, 1) := by decide +kernel
theorem dJx4a65c_grow_92f84_0 : decode cJx4a65c_grow_92f84 0 = .ok (.aload_n 0, 1) := by decide +kernel
theorem dJx4a65c_grow_92f84_1 : decode cJx4a65c_grow_92f84 1 = .ok (.getfield 9, 3) := by decide +kernel
theorem dJx4a65c_grow_92f84_4 : decode cJx4a65c_grow_92f84 4 = .ok (.arraylength, 1) := by decide +kernel
theorem dJx4a65c_grow_92f84_5 : decode cJx4a65c_grow_92f84 5 = .ok (.istore_n 2, 1) := by decide +kernel
theorem dJx4a65c_grow_92f84_6 : decode cJx4a65c_grow_92f84 6 = .ok (.iload_n 2, 1) := by decide +kernel
theorem dJx4a65c_grow_92f84_7 : decode cJx4a65c_grow_92f84 7 = .ok (.ifCond .gt 13, 3) := by decide +kernel
theorem dJx4a65c_grow_92f84_10 : decode cJx4a65c_grow_92f84 10 = .ok (.aload_n 0, 1) := by decide +kernel
theorem dJx4a65c_grow_92f84_11 : decode cJx4a65c_grow_92f84 11 = .ok (.getfield 9, 3) := by decide +kernel
theorem dJx4a65c_grow_92f84_14 : decode cJx4a65c_grow_92f84 14 = .ok (.getstatic 39, 3) := by decide +kernel
theorem dJx4a65c_grow_92f84_17 : decode cJx4a65c_grow_92f84 17 = .ok (.if_acmp .eq 28, 3) := by decide +kernel
theorem dJx4a65c_grow_92f84_20 : decode cJx4a65c_grow_92f84 20 = .ok (.iload_n 2, 1) := by decide +kernel
theorem dJx4a65c_grow_92f84_21 : decode cJx4a65c_grow_92f84 21 = .ok (.iload_n 1, 1) := by decide +kernel
theorem dJx4a65c_grow_92f84_22 : decode cJx4a65c_grow_92f84 22 = .ok (.iload_n 2, 1) := by decide +kernel
theorem dJx4a65c_grow_92f84_23 : decode cJx4a65c_grow_92f84 23 = .ok (.isub, 1) := by decide +kernel
theorem dJx4a65c_grow_92f84_24 : decode cJx4a65c_grow_92f84 24 = .ok (.iload_n 2, 1) := by decide +kernel
theorem dJx4a65c_grow_92f84_25 : decode cJx4a65c_grow_92f84 25 = .ok (.iconst 1, 1) := by decide +kernel
theorem dJx4a65c_grow_92f84_26 : decode cJx4a65c_grow_92f84 26 = .ok (.ishr, 1) := by decide +kernel
theorem dJx4a65c_grow_92f84_27 : decode cJx4a65c_grow_92f84 27 = .ok (.invokestatic 73, 3) := by decide +kernel
theorem dJx4a65c_grow_92f84_30 : decode cJx4a65c_grow_92f84 30 = .ok (.istore_n 3, 1) := by decide +kernel
theorem dJx4a65c_grow_92f84_31 : decode cJx4a65c_grow_92f84 31 = .ok (.aload_n 0, 1) := by decide +kernel
theorem dJx4a65c_grow_92f84_32 : decode cJx4a65c_grow_92f84 32 = .ok (.aload_n 0, 1) := by decide +kernel
theorem dJx4a65c_grow_92f84_33 : decode cJx4a65c_grow_92f84 33 = .ok (.getfield 9, 3) := by decide +kernel
theorem dJx4a65c_grow_92f84_36 : decode cJx4a65c_grow_92f84 36 = .ok (.iload_n 3, 1) := by decide +kernel
theorem dJx4a65c_grow_92f84_37 : decode cJx4a65c_grow_92f84 37 = .ok (.invokestatic 66, 3) := by decide +kernel
theorem dJx4a65c_grow_92f84_40 : decode cJx4a65c_grow_92f84 40 = .ok (.dup_x1, 1) := by decide +kernel
theorem dJx4a65c_grow_92f84_41 : decode cJx4a65c_grow_92f84 41 = .ok (.putfield 9, 3) := by decide +kernel
theorem dJx4a65c_grow_92f84_44 : decode cJx4a65c_grow_92f84 44 = .ok (.areturn, 1) := by decide +kernel
theorem dJx4a65c_grow_92f84_45 : decode cJx4a65c_grow_92f84 45 = .ok (.aload_n 0, 1) := by decide +kernel
theorem dJx4a65c_grow_92f84_46 : decode cJx4a65c_grow_92f84 46 = .ok (.bipush 10, 2) := by decide +kernel
theorem dJx4a65c_grow_92f84_48 : decode cJx4a65c_grow_92f84 48 = .ok (.iload_n 1, 1) := by decide +kernel
theorem dJx4a65c_grow_92f84_49 : decode cJx4a65c_grow_92f84 49 = .ok (.invokestatic 79, 3) := by decide +kernel
theorem dJx4a65c_grow_92f84_52 : decode cJx4a65c_grow_92f84 52 = .ok (.anewarray 7, 3) := by decide +kernel
theorem dJx4a65c_grow_92f84_55 : decode cJx4a65c_grow_92f84 55 = .ok (.dup_x1, 1) := by decide +kernel
theorem dJx4a65c_grow_92f84_56 : decode cJx4a65c_grow_92f84 56 = .ok (.putfield 9, 3) := by decide +kernel
theorem dJx4a65c_grow_92f84_59 : decode cJx4a65c_grow_92f84 59 = .ok (.areturn, 1) := by decide +kernel
theorem dJx4a65c_grow_d5877_0 : decode cJx4a65c_grow_d5877 0 = .ok (.aload_n 0, 1) := by decide +kernel
theorem dJx4a65c_grow_d5877_1 : decode cJx4a65c_grow_d5877 1 = .ok (.aload_n 0, 1) := by decide +kernel
theorem dJx4a65c_grow_d5877_2 : decode cJx4a65c_grow_d5877 2 = .ok (.getfield 48, 3) := by decide +kernel
theorem dJx4a65c_grow_d5877_5 : decode cJx4a65c_grow_d5877 5 = .ok (.iconst 1, 1) := by decide +kernel
theorem dJx4a65c_grow_d5877_6 : decode cJx4a65c_grow_d5877 6 = .ok (.iadd, 1) := by decide +kernel
theorem dJx4a65c_grow_d5877_7 : decode cJx4a65c_grow_d5877 7 = .ok (.invokevirtual 69, 3) := by decide +kernel
theorem dJx4a65c_grow_d5877_10 : decode cJx4a65c_grow_d5877 10 = .ok (.areturn, 1) := by decide +kernel
theorem dJx4a65c_size_8abf5_0 : decode cJx4a65c_size_8abf5 0 = .ok (.aload_n 0, 1) := by decide +kernel
theorem dJx4a65c_size_8abf5_1 : decode cJx4a65c_size_8abf5 1 = .ok (.getfield 48, 3) := by decide +kernel
theorem dJx4a65c_size_8abf5_4 : decode cJx4a65c_size_8abf5 4 = .ok (.ireturn, 1) := by decide +kernel
theorem dJx4a65c_elementData_915e3_0 : decode cJx4a65c_elementData_915e3 0 = .ok (.aload_n 0, 1) := by decide +kernel
theorem dJx4a65c_elementData_915e3_1 : decode cJx4a65c_elementData_915e3 1 = .ok (.getfield 9, 3) := by decide +kernel
theorem dJx4a65c_elementData_915e3_4 : decode cJx4a65c_elementData_915e3 4 = .ok (.iload_n 1, 1) := by decide +kernel
theorem dJx4a65c_elementData_915e3_5 : decode cJx4a65c_elementData_915e3 5 = .ok (.aaload, 1) := by decide +kernel
theorem dJx4a65c_elementData_915e3_6 : decode cJx4a65c_elementData_915e3 6 = .ok (.areturn, 1) := by decide +kernel
theorem dJx4a65c_get_915e3_0 : decode cJx4a65c_get_915e3 0 = .ok (.iload_n 1, 1) := by decide +kernel
theorem dJx4a65c_get_915e3_1 : decode cJx4a65c_get_915e3 1 = .ok (.aload_n 0, 1) := by decide +kernel
theorem dJx4a65c_get_915e3_2 : decode cJx4a65c_get_915e3 2 = .ok (.getfield 48, 3) := by decide +kernel
theorem dJx4a65c_get_915e3_5 : decode cJx4a65c_get_915e3 5 = .ok (.invokestatic 118, 3) := by decide +kernel
theorem dJx4a65c_get_915e3_8 : decode cJx4a65c_get_915e3 8 = .ok (.pop, 1) := by decide +kernel
theorem dJx4a65c_get_915e3_9 : decode cJx4a65c_get_915e3 9 = .ok (.aload_n 0, 1) := by decide +kernel
theorem dJx4a65c_get_915e3_10 : decode cJx4a65c_get_915e3 10 = .ok (.iload_n 1, 1) := by decide +kernel
theorem dJx4a65c_get_915e3_11 : decode cJx4a65c_get_915e3 11 = .ok (.invokevirtual 123, 3) := by decide +kernel
theorem dJx4a65c_get_915e3_14 : decode cJx4a65c_get_915e3 14 = .ok (.areturn, 1) := by decide +kernel
theorem dJx4a65c_add_72be8_0 : decode cJx4a65c_add_72be8 0 = .ok (.iload_n 3, 1) := by decide +kernel
theorem dJx4a65c_add_72be8_1 : decode cJx4a65c_add_72be8 1 = .ok (.aload_n 2, 1) := by decide +kernel
theorem dJx4a65c_add_72be8_2 : decode cJx4a65c_add_72be8 2 = .ok (.arraylength, 1) := by decide +kernel
theorem dJx4a65c_add_72be8_3 : decode cJx4a65c_add_72be8 3 = .ok (.if_icmp .ne 8, 3) := by decide +kernel
theorem dJx4a65c_add_72be8_6 : decode cJx4a65c_add_72be8 6 = .ok (.aload_n 0, 1) := by decide +kernel
theorem dJx4a65c_add_72be8_7 : decode cJx4a65c_add_72be8 7 = .ok (.invokevirtual 129, 3) := by decide +kernel
theorem dJx4a65c_add_72be8_10 : decode cJx4a65c_add_72be8 10 = .ok (.astore_n 2, 1) := by decide +kernel
theorem dJx4a65c_add_72be8_11 : decode cJx4a65c_add_72be8 11 = .ok (.aload_n 2, 1) := by decide +kernel
theorem dJx4a65c_add_72be8_12 : decode cJx4a65c_add_72be8 12 = .ok (.iload_n 3, 1) := by decide +kernel
theorem dJx4a65c_add_72be8_13 : decode cJx4a65c_add_72be8 13 = .ok (.aload_n 1, 1) := by decide +kernel
theorem dJx4a65c_add_72be8_14 : decode cJx4a65c_add_72be8 14 = .ok (.aastore, 1) := by decide +kernel
theorem dJx4a65c_add_72be8_15 : decode cJx4a65c_add_72be8 15 = .ok (.aload_n 0, 1) := by decide +kernel
theorem dJx4a65c_add_72be8_16 : decode cJx4a65c_add_72be8 16 = .ok (.iload_n 3, 1) := by decide +kernel
theorem dJx4a65c_add_72be8_17 : decode cJx4a65c_add_72be8 17 = .ok (.iconst 1, 1) := by decide +kernel
theorem dJx4a65c_add_72be8_18 : decode cJx4a65c_add_72be8 18 = .ok (.iadd, 1) := by decide +kernel
theorem dJx4a65c_add_72be8_19 : decode cJx4a65c_add_72be8 19 = .ok (.putfield 48, 3) := by decide +kernel
theorem dJx4a65c_add_72be8_22 : decode cJx4a65c_add_72be8 22 = .ok (.return_, 1) := by decide +kernel
theorem dJx4a65c_add_9ea2d_0 : decode cJx4a65c_add_9ea2d 0 = .ok (.aload_n 0, 1) := by decide +kernel
theorem dJx4a65c_add_9ea2d_1 : decode cJx4a65c_add_9ea2d 1 = .ok (.dup, 1) := by decide +kernel
theorem dJx4a65c_add_9ea2d_2 : decode cJx4a65c_add_9ea2d 2 = .ok (.getfield 63, 3) := by decide +kernel
theorem dJx4a65c_add_9ea2d_5 : decode cJx4a65c_add_9ea2d 5 = .ok (.iconst 1, 1) := by decide +kernel
theorem dJx4a65c_add_9ea2d_6 : decode cJx4a65c_add_9ea2d 6 = .ok (.iadd, 1) := by decide +kernel
theorem dJx4a65c_add_9ea2d_7 : decode cJx4a65c_add_9ea2d 7 = .ok (.putfield 63, 3) := by decide +kernel
theorem dJx4a65c_add_9ea2d_10 : decode cJx4a65c_add_9ea2d 10 = .ok (.aload_n 0, 1) := by decide +kernel
theorem dJx4a65c_add_9ea2d_11 : decode cJx4a65c_add_9ea2d 11 = .ok (.aload_n 1, 1) := by decide +kernel
theorem dJx4a65c_add_9ea2d_12 : decode cJx4a65c_add_9ea2d 12 = .ok (.aload_n 0, 1) := by decide +kernel
theorem dJx4a65c_add_9ea2d_13 : decode cJx4a65c_add_9ea2d 13 = .ok (.getfield 9, 3) := by decide +kernel
theorem dJx4a65c_add_9ea2d_16 : decode cJx4a65c_add_9ea2d 16 = .ok (.aload_n 0, 1) := by decide +kernel
theorem dJx4a65c_add_9ea2d_17 : decode cJx4a65c_add_9ea2d 17 = .ok (.getfield 48, 3) := by decide +kernel
theorem dJx4a65c_add_9ea2d_20 : decode cJx4a65c_add_9ea2d 20 = .ok (.invokevirtual 131, 3) := by decide +kernel
theorem dJx4a65c_add_9ea2d_23 : decode cJx4a65c_add_9ea2d 23 = .ok (.iconst 1, 1) := by decide +kernel
theorem dJx4a65c_add_9ea2d_24 : decode cJx4a65c_add_9ea2d 24 = .ok (.ireturn, 1) := by decide +kernel
theorem dJ7_copyOf_1904c_0 : decode cJ7_copyOf_1904c 0 = .ok (.aload_n 0, 1) := by decide +kernel
theorem dJ7_copyOf_1904c_1 : decode cJ7_copyOf_1904c 1 = .ok (.iload_n 1, 1) := by decide +kernel
theorem dJ7_copyOf_1904c_2 : decode cJ7_copyOf_1904c 2 = .ok (.aload_n 0, 1) := by decide +kernel
theorem dJ7_copyOf_1904c_3 : decode cJ7_copyOf_1904c 3 = .ok (.invokevirtual 86, 3) := by decide +kernel
theorem dJ7_copyOf_1904c_6 : decode cJ7_copyOf_1904c 6 = .ok (.invokestatic 300, 3) := by decide +kernel
theorem dJ7_copyOf_1904c_9 : decode cJ7_copyOf_1904c 9 = .ok (.areturn, 1) := by decide +kernel
theorem dJ7_copyOf_6403c_0 : decode cJ7_copyOf_6403c 0 = .ok (.aload_n 2, 1) := by decide +kernel
theorem dJ7_copyOf_6403c_1 : decode cJ7_copyOf_6403c 1 = .ok (.ldc 110, 2) := by decide +kernel
theorem dJ7_copyOf_6403c_3 : decode cJ7_copyOf_6403c 3 = .ok (.if_acmp .ne 10, 3) := by decide +kernel
theorem dJ7_copyOf_6403c_6 : decode cJ7_copyOf_6403c 6 = .ok (.iload_n 1, 1) := by decide +kernel
theorem dJ7_copyOf_6403c_7 : decode cJ7_copyOf_6403c 7 = .ok (.anewarray 2, 3) := by decide +kernel
theorem dJ7_copyOf_6403c_10 : decode cJ7_copyOf_6403c 10 = .ok (.goto 14, 3) := by decide +kernel
theorem dJ7_copyOf_6403c_13 : decode cJ7_copyOf_6403c 13 = .ok (.aload_n 2, 1) := by decide +kernel
theorem dJ7_copyOf_6403c_14 : decode cJ7_copyOf_6403c 14 = .ok (.invokevirtual 90, 3) := by decide +kernel
theorem dJ7_copyOf_6403c_17 : decode cJ7_copyOf_6403c 17 = .ok (.iload_n 1, 1) := by decide +kernel
theorem dJ7_copyOf_6403c_18 : decode cJ7_copyOf_6403c 18 = .ok (.invokestatic 95, 3) := by decide +kernel
theorem dJ7_copyOf_6403c_21 : decode cJ7_copyOf_6403c 21 = .ok (.checkcast 110, 3) := by decide +kernel
theorem dJ7_copyOf_6403c_24 : decode cJ7_copyOf_6403c 24 = .ok (.astore_n 3, 1) := by decide +kernel
theorem dJ7_copyOf_6403c_25 : decode cJ7_copyOf_6403c 25 = .ok (.aload_n 0, 1) := by decide +kernel
theorem dJ7_copyOf_6403c_26 : decode cJ7_copyOf_6403c 26 = .ok (.iconst 0, 1) := by decide +kernel
theorem dJ7_copyOf_6403c_27 : decode cJ7_copyOf_6403c 27 = .ok (.aload_n 3, 1) := by decide +kernel
theorem dJ7_copyOf_6403c_28 : decode cJ7_copyOf_6403c 28 = .ok (.iconst 0, 1) := by decide +kernel
theorem dJ7_copyOf_6403c_29 : decode cJ7_copyOf_6403c 29 = .ok (.aload_n 0, 1) := by decide +kernel
theorem dJ7_copyOf_6403c_30 : decode cJ7_copyOf_6403c 30 = .ok (.arraylength, 1) := by decide +kernel
theorem dJ7_copyOf_6403c_31 : decode cJ7_copyOf_6403c 31 = .ok (.iload_n 1, 1) := by decide +kernel
theorem dJ7_copyOf_6403c_32 : decode cJ7_copyOf_6403c 32 = .ok (.invokestatic 304, 3) := by decide +kernel
theorem dJ7_copyOf_6403c_35 : decode cJ7_copyOf_6403c 35 = .ok (.invokestatic 150, 3) := by decide +kernel
theorem dJ7_copyOf_6403c_38 : decode cJ7_copyOf_6403c 38 = .ok (.aload_n 3, 1) := by decide +kernel
theorem dJ7_copyOf_6403c_39 : decode cJ7_copyOf_6403c 39 = .ok (.areturn, 1) := by decide +kernel
theorem dJ15_checkIndex_7cf53_0 : decode cJ15_checkIndex_7cf53 0 = .ok (.iload_n 0, 1) := by decide +kernel
theorem dJ15_checkIndex_7cf53_1 : decode cJ15_checkIndex_7cf53 1 = .ok (.iload_n 1, 1) := by decide +kernel
theorem dJ15_checkIndex_7cf53_2 : decode cJ15_checkIndex_7cf53 2 = .ok (.aconst_null, 1) := by decide +kernel
theorem dJ15_checkIndex_7cf53_3 : decode cJ15_checkIndex_7cf53 3 = .ok (.invokestatic 105, 3) := by decide +kernel
theorem dJ15_checkIndex_7cf53_6 : decode cJ15_checkIndex_7cf53 6 = .ok (.ireturn, 1) := by decide +kernel
theorem dJ8_newLength_cabcc_0 : decode cJ8_newLength_cabcc 0 = .ok (.iload_n 0, 1) := by decide +kernel
theorem dJ8_newLength_cabcc_1 : decode cJ8_newLength_cabcc 1 = .ok (.iload_n 1, 1) := by decide +kernel
theorem dJ8_newLength_cabcc_2 : decode cJ8_newLength_cabcc 2 = .ok (.iload_n 2, 1) := by decide +kernel
theorem dJ8_newLength_cabcc_3 : decode cJ8_newLength_cabcc 3 = .ok (.invokestatic 194, 3) := by decide +kernel
theorem dJ8_newLength_cabcc_6 : decode cJ8_newLength_cabcc 6 = .ok (.iadd, 1) := by decide +kernel
theorem dJ8_newLength_cabcc_7 : decode cJ8_newLength_cabcc 7 = .ok (.istore_n 3, 1) := by decide +kernel
theorem dJ8_newLength_cabcc_8 : decode cJ8_newLength_cabcc 8 = .ok (.iconst 0, 1) := by decide +kernel
theorem dJ8_newLength_cabcc_9 : decode cJ8_newLength_cabcc 9 = .ok (.iload_n 3, 1) := by decide +kernel
theorem dJ8_newLength_cabcc_10 : decode cJ8_newLength_cabcc 10 = .ok (.if_icmp .ge 11, 3) := by decide +kernel
theorem dJ8_newLength_cabcc_13 : decode cJ8_newLength_cabcc 13 = .ok (.iload_n 3, 1) := by decide +kernel
theorem dJ8_newLength_cabcc_14 : decode cJ8_newLength_cabcc 14 = .ok (.ldc 200, 2) := by decide +kernel
theorem dJ8_newLength_cabcc_16 : decode cJ8_newLength_cabcc 16 = .ok (.if_icmp .gt 5, 3) := by decide +kernel
theorem dJ8_newLength_cabcc_19 : decode cJ8_newLength_cabcc 19 = .ok (.iload_n 3, 1) := by decide +kernel
theorem dJ8_newLength_cabcc_20 : decode cJ8_newLength_cabcc 20 = .ok (.ireturn, 1) := by decide +kernel
theorem dJ8_newLength_cabcc_21 : decode cJ8_newLength_cabcc 21 = .ok (.iload_n 0, 1) := by decide +kernel
theorem dJ8_newLength_cabcc_22 : decode cJ8_newLength_cabcc 22 = .ok (.iload_n 1, 1) := by decide +kernel
theorem dJ8_newLength_cabcc_23 : decode cJ8_newLength_cabcc 23 = .ok (.invokestatic 201, 3) := by decide +kernel
theorem dJ8_newLength_cabcc_26 : decode cJ8_newLength_cabcc 26 = .ok (.ireturn, 1) := by decide +kernel
theorem dJ8_hugeLength_7cf53_0 : decode cJ8_hugeLength_7cf53 0 = .ok (.iload_n 0, 1) := by decide +kernel
theorem dJ8_hugeLength_7cf53_1 : decode cJ8_hugeLength_7cf53 1 = .ok (.iload_n 1, 1) := by decide +kernel
theorem dJ8_hugeLength_7cf53_2 : decode cJ8_hugeLength_7cf53 2 = .ok (.iadd, 1) := by decide +kernel
theorem dJ8_hugeLength_7cf53_3 : decode cJ8_hugeLength_7cf53 3 = .ok (.istore_n 2, 1) := by decide +kernel
theorem dJ8_hugeLength_7cf53_4 : decode cJ8_hugeLength_7cf53 4 = .ok (.iload_n 2, 1) := by decide +kernel
theorem dJ8_hugeLength_7cf53_5 : decode cJ8_hugeLength_7cf53 5 = .ok (.ifCond .ge 44, 3) := by decide +kernel
theorem dJ8_hugeLength_7cf53_8 : decode cJ8_hugeLength_7cf53 8 = .ok (.new 204, 3) := by decide +kernel
theorem dJ8_hugeLength_7cf53_11 : decode cJ8_hugeLength_7cf53 11 = .ok (.dup, 1) := by decide +kernel
theorem dJ8_hugeLength_7cf53_12 : decode cJ8_hugeLength_7cf53 12 = .ok (.new 89, 3) := by decide +kernel
theorem dJ8_hugeLength_7cf53_15 : decode cJ8_hugeLength_7cf53 15 = .ok (.dup, 1) := by decide +kernel
theorem dJ8_hugeLength_7cf53_16 : decode cJ8_hugeLength_7cf53 16 = .ok (.invokespecial 91, 3) := by decide +kernel
theorem dJ8_hugeLength_7cf53_19 : decode cJ8_hugeLength_7cf53 19 = .ok (.ldc 206, 2) := by decide +kernel
theorem dJ8_hugeLength_7cf53_21 : decode cJ8_hugeLength_7cf53 21 = .ok (.invokevirtual 94, 3) := by decide +kernel
theorem dJ8_hugeLength_7cf53_24 : decode cJ8_hugeLength_7cf53 24 = .ok (.iload_n 0, 1) := by decide +kernel
theorem dJ8_hugeLength_7cf53_25 : decode cJ8_hugeLength_7cf53 25 = .ok (.invokevirtual 98, 3) := by decide +kernel
theorem dJ8_hugeLength_7cf53_28 : decode cJ8_hugeLength_7cf53 28 = .ok (.ldc 208, 2) := by decide +kernel
theorem dJ8_hugeLength_7cf53_30 : decode cJ8_hugeLength_7cf53 30 = .ok (.invokevirtual 94, 3) := by decide +kernel
theorem dJ8_hugeLength_7cf53_33 : decode cJ8_hugeLength_7cf53 33 = .ok (.iload_n 1, 1) := by decide +kernel
theorem dJ8_hugeLength_7cf53_34 : decode cJ8_hugeLength_7cf53 34 = .ok (.invokevirtual 98, 3) := by decide +kernel
theorem dJ8_hugeLength_7cf53_37 : decode cJ8_hugeLength_7cf53 37 = .ok (.ldc 210, 2) := by decide +kernel
theorem dJ8_hugeLength_7cf53_39 : decode cJ8_hugeLength_7cf53 39 = .ok (.invokevirtual 94, 3) := by decide +kernel
theorem dJ8_hugeLength_7cf53_42 : decode cJ8_hugeLength_7cf53 42 = .ok (.invokevirtual 101, 3) := by decide +kernel
theorem dJ8_hugeLength_7cf53_45 : decode cJ8_hugeLength_7cf53 45 = .ok (.invokespecial 212, 3) := by decide +kernel
theorem dJ8_hugeLength_7cf53_48 : decode cJ8_hugeLength_7cf53 48 = .ok (.athrow, 1) := by decide +kernel
theorem dJ8_hugeLength_7cf53_49 : decode cJ8_hugeLength_7cf53 49 = .ok (.iload_n 2, 1) := by decide +kernel
theorem dJ8_hugeLength_7cf53_50 : decode cJ8_hugeLength_7cf53 50 = .ok (.ldc 200, 2) := by decide +kernel
theorem dJ8_hugeLength_7cf53_52 : decode cJ8_hugeLength_7cf53 52 = .ok (.if_icmp .gt 6, 3) := by decide +kernel
theorem dJ8_hugeLength_7cf53_55 : decode cJ8_hugeLength_7cf53 55 = .ok (.ldc 200, 2) := by decide +kernel
theorem dJ8_hugeLength_7cf53_57 : decode cJ8_hugeLength_7cf53 57 = .ok (.ireturn, 1) := by decide +kernel
theorem dJ8_hugeLength_7cf53_58 : decode cJ8_hugeLength_7cf53 58 = .ok (.iload_n 2, 1) := by decide +kernel
theorem dJ8_hugeLength_7cf53_59 : decode cJ8_hugeLength_7cf53 59 = .ok (.ireturn, 1) := by decide +kernel
theorem dJ3_checkIndex_8e157_0 : decode cJ3_checkIndex_8e157 0 = .ok (.iload_n 0, 1) := by decide +kernel
theorem dJ3_checkIndex_8e157_1 : decode cJ3_checkIndex_8e157 1 = .ok (.ifCond .lt 8, 3) := by decide +kernel
theorem dJ3_checkIndex_8e157_4 : decode cJ3_checkIndex_8e157 4 = .ok (.iload_n 0, 1) := by decide +kernel
theorem dJ3_checkIndex_8e157_5 : decode cJ3_checkIndex_8e157 5 = .ok (.iload_n 1, 1) := by decide +kernel
theorem dJ3_checkIndex_8e157_6 : decode cJ3_checkIndex_8e157 6 = .ok (.if_icmp .lt 10, 3) := by decide +kernel
theorem dJ3_checkIndex_8e157_9 : decode cJ3_checkIndex_8e157 9 = .ok (.aload_n 2, 1) := by decide +kernel
theorem dJ3_checkIndex_8e157_10 : decode cJ3_checkIndex_8e157 10 = .ok (.iload_n 0, 1) := by decide +kernel
theorem dJ3_checkIndex_8e157_11 : decode cJ3_checkIndex_8e157 11 = .ok (.iload_n 1, 1) := by decide +kernel
theorem dJ3_checkIndex_8e157_12 : decode cJ3_checkIndex_8e157 12 = .ok (.invokestatic 95, 3) := by decide +kernel
theorem dJ3_checkIndex_8e157_15 : decode cJ3_checkIndex_8e157 15 = .ok (.athrow, 1) := by decide +kernel
theorem dJ3_checkIndex_8e157_16 : decode cJ3_checkIndex_8e157 16 = .ok (.iload_n 0, 1) := by decide +kernel
theorem dJ3_checkIndex_8e157_17 : decode cJ3_checkIndex_8e157 17 = .ok (.ireturn, 1) := by decide +kernel
