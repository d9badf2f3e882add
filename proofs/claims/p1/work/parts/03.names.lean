def RX0 : String := "Goalmouth$Book"
def TX0 : u_T := fun k => match k with
  | 0 => ("Goalmouth$Book", "events", "Ljava/util/ArrayList;", true)
  | 1 => ("Goalmouth$Book", "cards", "Ljava/util/ArrayList;", true)
  | 2 => ("Goalmouth$Book", "bans", "[I", true)
  | 3 => ("Goalmouth$Book", "yellows", "[I", true)
  | 4 => ("Goalmouth$Book", "oldBans", "[I", true)
  | _ => ("Goalmouth$Book", "oldYellows", "[I", true)
def tyX0 : Nat → FieldType := fun k => match k with
  | 0 => .object "java/util/ArrayList"
  | 1 => .object "java/util/ArrayList"
  | 2 => .array .int
  | 3 => .array .int
  | 4 => .array .int
  | _ => .array .int
theorem nmX0 : ∀ a, a < 6 → ∀ b, b < 6 → a ≠ b → (TX0 a).2.1 ≠ (TX0 b).2.1 := by decide +kernel
theorem tyX0_ok : ∀ k, k < 6 → parseFieldDescriptor (TX0 k).2.2.1 = some (tyX0 k) := by decide +kernel
abbrev cX0_init : ByteArray := prog_2_method_1_code
abbrev cX0_isFull : ByteArray := prog_2_method_2_code
abbrev cX0_write : ByteArray := prog_2_method_3_code
abbrev cX0_countAnew : ByteArray := prog_2_method_4_code
abbrev cX0_isSameAnew : ByteArray := prog_2_method_5_code
abbrev cX0_count : ByteArray := prog_2_method_6_code
abbrev cX0_playersWithYellows : ByteArray := prog_2_method_11_code
def RX1 : String := "Goalmouth$Card"
def RX2 : String := "Goalmouth$Club"
def TX2 : u_T := fun k => match k with
  | 0 => ("Goalmouth$Club", "number", "I", true)
  | 1 => ("Goalmouth$Club", "ground", "I", true)
  | 2 => ("Goalmouth$Club", "grade", "I", true)
  | 3 => ("Goalmouth$Club", "division", "I", false)
  | 4 => ("Goalmouth$Club", "money", "I", false)
  | 5 => ("Goalmouth$Club", "taken", "I", false)
  | 6 => ("Goalmouth$Club", "isStruck", "Z", false)
  | 7 => ("Goalmouth$Club", "rivals", "I", false)
  | 8 => ("Goalmouth$Club", "isInGroup", "Z", false)
  | 9 => ("Goalmouth$Club", "won", "I", false)
  | 10 => ("Goalmouth$Club", "difference", "I", false)
  | 11 => ("Goalmouth$Club", "scored", "I", false)
  | 12 => ("Goalmouth$Club", "total", "I", false)
  | 13 => ("Goalmouth$Club", "overall", "I", false)
  | _ => ("Goalmouth$Club", "key", "I", false)
def tyX2 : Nat → FieldType := fun k => match k with
  | 0 => .int
  | 1 => .int
  | 2 => .int
  | 3 => .int
  | 4 => .int
  | 5 => .int
  | 6 => .boolean
  | 7 => .int
  | 8 => .boolean
  | 9 => .int
  | 10 => .int
  | 11 => .int
  | 12 => .int
  | 13 => .int
  | _ => .int
theorem nmX2 : ∀ a, a < 15 → ∀ b, b < 15 → a ≠ b → (TX2 a).2.1 ≠ (TX2 b).2.1 := by decide +kernel
theorem tyX2_ok : ∀ k, k < 15 → parseFieldDescriptor (TX2 k).2.2.1 = some (tyX2 k) := by decide +kernel
abbrev cX2_init : ByteArray := prog_4_method_1_code
def RX3 : String := "Goalmouth$Event"
def TX3 : u_T := fun k => match k with
  | 0 => ("Goalmouth$Event", "kind", "I", true)
  | 1 => ("Goalmouth$Event", "side", "LGoalmouth$Side;", true)
  | 2 => ("Goalmouth$Event", "who", "I", true)
  | 3 => ("Goalmouth$Event", "strangers", "I", true)
  | 4 => ("Goalmouth$Event", "firstCard", "I", false)
  | _ => ("Goalmouth$Event", "pastCard", "I", false)
def tyX3 : Nat → FieldType := fun k => match k with
  | 0 => .int
  | 1 => .object "Goalmouth$Side"
  | 2 => .int
  | 3 => .int
  | 4 => .int
  | _ => .int
theorem nmX3 : ∀ a, a < 6 → ∀ b, b < 6 → a ≠ b → (TX3 a).2.1 ≠ (TX3 b).2.1 := by decide +kernel
theorem tyX3_ok : ∀ k, k < 6 → parseFieldDescriptor (TX3 k).2.2.1 = some (tyX3 k) := by decide +kernel
abbrev cX3_init : ByteArray := prog_5_method_1_code
def RX4 : String := "Goalmouth$Fixture"
def RX5 : String := "Goalmouth$Planner"
def TX5 : u_T := fun k => match k with
  | 0 => ("Goalmouth$Planner", "homes", "Ljava/util/ArrayList;", true)
  | 1 => ("Goalmouth$Planner", "aways", "Ljava/util/ArrayList;", true)
  | 2 => ("Goalmouth$Planner", "dayOf", "[I", true)
  | 3 => ("Goalmouth$Planner", "clubsOn", "[I", true)
  | 4 => ("Goalmouth$Planner", "groundsOn", "[I", true)
  | 5 => ("Goalmouth$Planner", "hasDerby", "[Z", true)
  | _ => ("Goalmouth$Planner", "days", "I", false)
def tyX5 : Nat → FieldType := fun k => match k with
  | 0 => .object "java/util/ArrayList"
  | 1 => .object "java/util/ArrayList"
  | 2 => .array .int
  | 3 => .array .int
  | 4 => .array .int
  | 5 => .array .boolean
  | _ => .int
theorem nmX5 : ∀ a, a < 7 → ∀ b, b < 7 → a ≠ b → (TX5 a).2.1 ≠ (TX5 b).2.1 := by decide +kernel
theorem tyX5_ok : ∀ k, k < 7 → parseFieldDescriptor (TX5 k).2.2.1 = some (tyX5 k) := by decide +kernel
abbrev cX5_init : ByteArray := prog_7_method_1_code
def RX6 : String := "Goalmouth$Player"
def RX7 : String := "Goalmouth$Side"
def RX8 : String := "Goalmouth$Table"
def TX8 : u_T := fun k => match k with
  | _ => ("Goalmouth$Table", "rows", "Ljava/util/ArrayList;", true)
def tyX8 : Nat → FieldType := fun k => match k with
  | _ => .object "java/util/ArrayList"
theorem nmX8 : ∀ a, a < 1 → ∀ b, b < 1 → a ≠ b → (TX8 a).2.1 ≠ (TX8 b).2.1 := by decide +kernel
theorem tyX8_ok : ∀ k, k < 1 → parseFieldDescriptor (TX8 k).2.2.1 = some (tyX8 k) := by decide +kernel
abbrev cX8_init : ByteArray := prog_10_method_1_code
abbrev cX8_draw : ByteArray := prog_10_method_2_code
abbrev cX8_firstToRise : ByteArray := prog_10_method_3_code
abbrev cX8_addRows : ByteArray := prog_10_method_5_code
abbrev cX8_countAmong : ByteArray := prog_10_method_6_code
abbrev cX8_sort : ByteArray := prog_10_method_7_code
abbrev cX8_partTies : ByteArray := prog_10_method_8_code
def RX9 : String := "Goalmouth"
def TX9 : u_T := fun k => match k with
  | 0 => ("Goalmouth", "clubs", "Ljava/util/ArrayList;", true)
  | 1 => ("Goalmouth", "players", "Ljava/util/ArrayList;", true)
  | 2 => ("Goalmouth", "fixtures", "Ljava/util/ArrayList;", true)
  | 3 => ("Goalmouth", "book", "LGoalmouth$Book;", true)
  | 4 => ("Goalmouth", "planner", "LGoalmouth$Planner;", true)
  | 5 => ("Goalmouth", "table", "LGoalmouth$Table;", true)
  | 6 => ("Goalmouth", "today", "I", false)
  | 7 => ("Goalmouth", "windowFrom", "I", false)
  | 8 => ("Goalmouth", "windowTo", "I", false)
  | _ => ("Goalmouth", "matchOn", "LGoalmouth$Fixture;", false)
def tyX9 : Nat → FieldType := fun k => match k with
  | 0 => .object "java/util/ArrayList"
  | 1 => .object "java/util/ArrayList"
  | 2 => .object "java/util/ArrayList"
  | 3 => .object "Goalmouth$Book"
  | 4 => .object "Goalmouth$Planner"
  | 5 => .object "Goalmouth$Table"
  | 6 => .int
  | 7 => .int
  | 8 => .int
  | _ => .object "Goalmouth$Fixture"
theorem nmX9 : ∀ a, a < 10 → ∀ b, b < 10 → a ≠ b → (TX9 a).2.1 ≠ (TX9 b).2.1 := by decide +kernel
theorem tyX9_ok : ∀ k, k < 10 → parseFieldDescriptor (TX9 k).2.2.1 = some (tyX9 k) := by decide +kernel
abbrev cX9_init : ByteArray := prog_1_method_1_code
abbrev cX9_addClub : ByteArray := prog_1_method_2_code
abbrev cX9_addPlayer : ByteArray := prog_1_method_3_code
abbrev cX9_setWindow : ByteArray := prog_1_method_4_code
abbrev cX9_goOn : ByteArray := prog_1_method_5_code
abbrev cX9_sell : ByteArray := prog_1_method_6_code
abbrev cX9_lend : ByteArray := prog_1_method_8_code
abbrev cX9_callBack : ByteArray := prog_1_method_9_code
abbrev cX9_setDerby : ByteArray := prog_1_method_10_code
abbrev cX9_plan : ByteArray := prog_1_method_11_code
abbrev cX9_putOff : ByteArray := prog_1_method_12_code
abbrev cX9_fixture : ByteArray := prog_1_method_14_code
abbrev cX9_stateOf : ByteArray := prog_1_method_15_code
abbrev cX9_name : ByteArray := prog_1_method_16_code
abbrev cX9_kickOff : ByteArray := prog_1_method_17_code
abbrev cX9_goal : ByteArray := prog_1_method_20_code
abbrev cX9_card : ByteArray := prog_1_method_21_code
abbrev cX9_change : ByteArray := prog_1_method_22_code
abbrev cX9_end : ByteArray := prog_1_method_23_code
abbrev cX9_abandon : ByteArray := prog_1_method_24_code
abbrev cX9_appeal : ByteArray := prog_1_method_27_code
abbrev cX9_wipe : ByteArray := prog_1_method_28_code
abbrev cX9_ban : ByteArray := prog_1_method_29_code
abbrev cX9_yellows : ByteArray := prog_1_method_30_code
abbrev cX9_isGuilty : ByteArray := prog_1_method_31_code
abbrev cX9_resultOf : ByteArray := prog_1_method_32_code
abbrev cX9_takePoints : ByteArray := prog_1_method_33_code
abbrev cX9_strike : ByteArray := prog_1_method_34_code
abbrev cX9_clubAt : ByteArray := prog_1_method_35_code
abbrev cX9_points : ByteArray := prog_1_method_36_code
abbrev cX9_divisionOf : ByteArray := prog_1_method_37_code
abbrev cX9_registered : ByteArray := prog_1_method_38_code
abbrev cX9_endSeason : ByteArray := prog_1_method_39_code
abbrev cX9_isFixtureLeft : ByteArray := prog_1_method_40_code
abbrev cX9_clearSeason : ByteArray := prog_1_method_41_code
abbrev cX9_money : ByteArray := prog_1_method_42_code
abbrev cX9_overShare : ByteArray := prog_1_method_43_code
abbrev cX9_meanGoals : ByteArray := prog_1_method_44_code
abbrev cX9_isSound : ByteArray := prog_1_method_45_code
abbrev cX9_isWithin : ByteArray := prog_1_method_46_code
abbrev cX9_isDivision : ByteArray := prog_1_method_47_code
abbrev cX9_isWindowOpen : ByteArray := prog_1_method_48_code
abbrev cX9_clubsIn : ByteArray := prog_1_method_49_code
abbrev cX9_hasFixtures : ByteArray := prog_1_method_50_code
abbrev cX9_fixturesOver : ByteArray := prog_1_method_51_code
abbrev cX9_knownClub : ByteArray := prog_1_method_52_code
abbrev cX9_knownPlayer : ByteArray := prog_1_method_53_code
abbrev cX9_knownBit : ByteArray := prog_1_method_54_code
abbrev cX9_knownFixture : ByteArray := prog_1_method_55_code
abbrev cX9_knownMatch : ByteArray := prog_1_method_56_code
def RX10 : String := "GoalmouthModel$Card"
def RX11 : String := "GoalmouthModel$Club"
def TX11 : u_T := fun k => match k with
  | 0 => ("GoalmouthModel$Club", "ground", "I", true)
  | 1 => ("GoalmouthModel$Club", "grade", "I", true)
  | 2 => ("GoalmouthModel$Club", "division", "I", false)
  | 3 => ("GoalmouthModel$Club", "money", "I", false)
  | 4 => ("GoalmouthModel$Club", "taken", "I", false)
  | _ => ("GoalmouthModel$Club", "struck", "Z", false)
def tyX11 : Nat → FieldType := fun k => match k with
  | 0 => .int
  | 1 => .int
  | 2 => .int
  | 3 => .int
  | 4 => .int
  | _ => .boolean
theorem nmX11 : ∀ a, a < 6 → ∀ b, b < 6 → a ≠ b → (TX11 a).2.1 ≠ (TX11 b).2.1 := by decide +kernel
theorem tyX11_ok : ∀ k, k < 6 → parseFieldDescriptor (TX11 k).2.2.1 = some (tyX11 k) := by decide +kernel
abbrev cX11_init : ByteArray := prog_14_method_1_code
def RX12 : String := "GoalmouthModel$Event"
def TX12 : u_T := fun k => match k with
  | 0 => ("GoalmouthModel$Event", "kind", "C", true)
  | 1 => ("GoalmouthModel$Event", "match", "LGoalmouthModel$Match;", true)
  | 2 => ("GoalmouthModel$Event", "player", "I", true)
  | 3 => ("GoalmouthModel$Event", "fits", "Z", true)
  | _ => ("GoalmouthModel$Event", "resting", "Ljava/util/List;", true)
def tyX12 : Nat → FieldType := fun k => match k with
  | 0 => .char
  | 1 => .object "GoalmouthModel$Match"
  | 2 => .int
  | 3 => .boolean
  | _ => .object "java/util/List"
theorem nmX12 : ∀ a, a < 5 → ∀ b, b < 5 → a ≠ b → (TX12 a).2.1 ≠ (TX12 b).2.1 := by decide +kernel
theorem tyX12_ok : ∀ k, k < 5 → parseFieldDescriptor (TX12 k).2.2.1 = some (tyX12 k) := by decide +kernel
abbrev cX12_init : ByteArray := prog_15_method_1_code
def RX13 : String := "GoalmouthModel$Match"
def RX14 : String := "GoalmouthModel$Player"
def RX15 : String := "GoalmouthModel"
def TX15 : u_T := fun k => match k with
  | 0 => ("GoalmouthModel", "clubs", "Ljava/util/List;", true)
  | 1 => ("GoalmouthModel", "players", "Ljava/util/List;", true)
  | 2 => ("GoalmouthModel", "matches", "Ljava/util/List;", true)
  | 3 => ("GoalmouthModel", "cards", "Ljava/util/List;", true)
  | 4 => ("GoalmouthModel", "events", "Ljava/util/List;", true)
  | 5 => ("GoalmouthModel", "derby", "[Z", true)
  | 6 => ("GoalmouthModel", "bans", "[I", true)
  | 7 => ("GoalmouthModel", "yellow", "[I", true)
  | 8 => ("GoalmouthModel", "thrown", "I", false)
  | 9 => ("GoalmouthModel", "day", "I", false)
  | 10 => ("GoalmouthModel", "from", "I", false)
  | 11 => ("GoalmouthModel", "to", "I", false)
  | _ => ("GoalmouthModel", "on", "LGoalmouthModel$Match;", false)
def tyX15 : Nat → FieldType := fun k => match k with
  | 0 => .object "java/util/List"
  | 1 => .object "java/util/List"
  | 2 => .object "java/util/List"
  | 3 => .object "java/util/List"
  | 4 => .object "java/util/List"
  | 5 => .array .boolean
  | 6 => .array .int
  | 7 => .array .int
  | 8 => .int
  | 9 => .int
  | 10 => .int
  | 11 => .int
  | _ => .object "GoalmouthModel$Match"
theorem nmX15 : ∀ a, a < 13 → ∀ b, b < 13 → a ≠ b → (TX15 a).2.1 ≠ (TX15 b).2.1 := by decide +kernel
theorem tyX15_ok : ∀ k, k < 13 → parseFieldDescriptor (TX15 k).2.2.1 = some (tyX15 k) := by decide +kernel
abbrev cX15_init : ByteArray := prog_12_method_1_code
abbrev cX15_thrown : ByteArray := prog_12_method_2_code
abbrev cX15_isIn : ByteArray := prog_12_method_3_code
abbrev cX15_no : ByteArray := prog_12_method_4_code
abbrev cX15_isClub : ByteArray := prog_12_method_5_code
abbrev cX15_isPlayer : ByteArray := prog_12_method_6_code
abbrev cX15_noMatch : ByteArray := prog_12_method_7_code
abbrev cX15_goesThrough : ByteArray := prog_12_method_8_code
abbrev cX15_clubsIn : ByteArray := prog_12_method_11_code
abbrev cX15_addClub : ByteArray := prog_12_method_12_code
abbrev cX15_addPlayer : ByteArray := prog_12_method_13_code
abbrev cX15_isOpen : ByteArray := prog_12_method_14_code
abbrev cX15_setWindow : ByteArray := prog_12_method_15_code
abbrev cX15_goOn : ByteArray := prog_12_method_16_code
abbrev cX15_sell : ByteArray := prog_12_method_17_code
abbrev cX15_lend : ByteArray := prog_12_method_18_code
abbrev cX15_callBack : ByteArray := prog_12_method_19_code
abbrev cX15_setDerby : ByteArray := prog_12_method_20_code
abbrev cX15_hasFixtures : ByteArray := prog_12_method_21_code
abbrev cX15_plan : ByteArray := prog_12_method_24_code
abbrev cX15_putOff : ByteArray := prog_12_method_26_code
abbrev cX15_fixture : ByteArray := prog_12_method_27_code
abbrev cX15_stateOf : ByteArray := prog_12_method_28_code
abbrev cX15_name : ByteArray := prog_12_method_29_code
abbrev cX15_kickOff : ByteArray := prog_12_method_31_code
abbrev cX15_noOn : ByteArray := prog_12_method_33_code
abbrev cX15_goal : ByteArray := prog_12_method_35_code
abbrev cX15_card : ByteArray := prog_12_method_36_code
abbrev cX15_change : ByteArray := prog_12_method_37_code
abbrev cX15_end : ByteArray := prog_12_method_39_code
abbrev cX15_abandon : ByteArray := prog_12_method_40_code
abbrev cX15_appeal : ByteArray := prog_12_method_41_code
abbrev cX15_wipe : ByteArray := prog_12_method_42_code
abbrev cX15_ban : ByteArray := prog_12_method_43_code
abbrev cX15_yellows : ByteArray := prog_12_method_44_code
abbrev cX15_isGuilty : ByteArray := prog_12_method_45_code
abbrev cX15_resultOf : ByteArray := prog_12_method_47_code
abbrev cX15_takePoints : ByteArray := prog_12_method_48_code
abbrev cX15_strike : ByteArray := prog_12_method_49_code
abbrev cX15_counting : ByteArray := prog_12_method_51_code
abbrev cX15_table : ByteArray := prog_12_method_53_code
abbrev cX15_clubAt : ByteArray := prog_12_method_57_code
abbrev cX15_points : ByteArray := prog_12_method_58_code
abbrev cX15_divisionOf : ByteArray := prog_12_method_59_code
abbrev cX15_registered : ByteArray := prog_12_method_60_code
abbrev cX15_endSeason : ByteArray := prog_12_method_61_code
abbrev cX15_money : ByteArray := prog_12_method_62_code
abbrev cX15_over : ByteArray := prog_12_method_63_code
abbrev cX15_overShare : ByteArray := prog_12_method_64_code
abbrev cX15_meanGoals : ByteArray := prog_12_method_65_code
abbrev cX15_isSound : ByteArray := prog_12_method_66_code
def RJx145de : String := "java/io/Serializable"
def RJ5 : String := "java/lang/AbstractStringBuilder"
def RJx2cfe8 : String := "java/lang/Appendable"
def RJx00060 : String := "java/lang/ArrayIndexOutOfBoundsException"
def RJx9f9b0 : String := "java/lang/CharSequence"
def RJx8e188 : String := "java/lang/Cloneable"
def RJxb160c : String := "java/lang/Comparable"
def RJxabbfe : String := "java/lang/Integer$IntegerCache"
def RJ6 : String := "java/lang/Integer"
def RJxab1ab : String := "java/lang/Iterable"
def RJ9 : String := "java/lang/Math"
def RJxd2413 : String := "java/lang/Number"
def RJ0 : String := "java/lang/String"
def RJ4 : String := "java/lang/StringBuilder"
def RJ1 : String := "java/lang/StringLatin1"
def RJ2 : String := "java/lang/StringUTF16"
def RJ10 : String := "java/lang/System"
def RJxfd54e : String := "java/lang/constant/Constable"
def RJx3cf43 : String := "java/lang/constant/ConstantDesc"
def RJxa1e45 : String := "java/util/AbstractCollection"
abbrev cJxa1e45_init_da8c8 : ByteArray := prog_45_method_1_code
def RJxc12de : String := "java/util/AbstractList"
abbrev cJxc12de_init_da8c8 : ByteArray := prog_46_method_1_code
def RJx35411 : String := "java/util/ArrayList$Itr"
def TJx35411 : u_T := fun k => match k with
  | 0 => ("java/util/ArrayList$Itr", "cursor", "I", false)
  | 1 => ("java/util/ArrayList$Itr", "lastRet", "I", false)
  | 2 => ("java/util/ArrayList$Itr", "expectedModCount", "I", false)
  | _ => ("java/util/ArrayList$Itr", "this$0", "Ljava/util/ArrayList;", true)
def tyJx35411 : Nat → FieldType := fun k => match k with
  | 0 => .int
  | 1 => .int
  | 2 => .int
  | _ => .object "java/util/ArrayList"
theorem nmJx35411 : ∀ a, a < 4 → ∀ b, b < 4 → a ≠ b → (TJx35411 a).2.1 ≠ (TJx35411 b).2.1 := by decide +kernel
theorem tyJx35411_ok : ∀ k, k < 4 → parseFieldDescriptor (TJx35411 k).2.2.1 = some (tyJx35411 k) := by decide +kernel
abbrev cJx35411_init_45d68 : ByteArray := prog_48_method_1_code
abbrev cJx35411_hasNext_aae02 : ByteArray := prog_48_method_2_code
def RJx4a65c : String := "java/util/ArrayList"
def TJx4a65c : u_T := fun k => match k with
  | 0 => ("java/util/AbstractList", "modCount", "I", false)
  | 1 => ("java/util/ArrayList", "elementData", "[Ljava/lang/Object;", false)
  | _ => ("java/util/ArrayList", "size", "I", false)
def tyJx4a65c : Nat → FieldType := fun k => match k with
  | 0 => .int
  | 1 => .array (.object "java/lang/Object")
  | _ => .int
theorem nmJx4a65c : ∀ a, a < 3 → ∀ b, b < 3 → a ≠ b → (TJx4a65c a).2.1 ≠ (TJx4a65c b).2.1 := by decide +kernel
theorem tyJx4a65c_ok : ∀ k, k < 3 → parseFieldDescriptor (TJx4a65c k).2.2.1 = some (tyJx4a65c k) := by decide +kernel
abbrev cJx4a65c_init_da8c8 : ByteArray := prog_47_method_2_code
abbrev cJx4a65c_grow_92f84 : ByteArray := prog_47_method_6_code
abbrev cJx4a65c_grow_d5877 : ByteArray := prog_47_method_7_code
abbrev cJx4a65c_size_8abf5 : ByteArray := prog_47_method_8_code
abbrev cJx4a65c_isEmpty_aae02 : ByteArray := prog_47_method_9_code
abbrev cJx4a65c_add_72be8 : ByteArray := prog_47_method_24_code
abbrev cJx4a65c_add_9ea2d : ByteArray := prog_47_method_25_code
abbrev cJx4a65c_clear_da8c8 : ByteArray := prog_47_method_40_code
abbrev cJx4a65c_iterator_32c93 : ByteArray := prog_47_method_55_code
def RJ7 : String := "java/util/Arrays"
abbrev cJ7_fill_53178 : ByteArray := prog_49_method_103_code
def RJx5ef63 : String := "java/util/Collection"
def RJx4d0d8 : String := "java/util/Iterator"
def RJxbd725 : String := "java/util/List"
def RJ15 : String := "java/util/Objects"
def RJxf0a74 : String := "java/util/RandomAccess"
def RJxa66e6 : String := "java/util/SequencedCollection"
def RJ8 : String := "jdk/internal/util/ArraysSupport"
def RJ3 : String := "jdk/internal/util/Preconditions"
def RL : String := "GoalmouthLaw"
abbrev cL_addClub : ByteArray := method_3_code
abbrev cL_addPlayer : ByteArray := method_4_code
abbrev cL_setWindow : ByteArray := method_5_code
abbrev cL_goOn : ByteArray := method_6_code
abbrev cL_sell : ByteArray := method_7_code
abbrev cL_lend : ByteArray := method_8_code
abbrev cL_callBack : ByteArray := method_9_code
abbrev cL_setDerby : ByteArray := method_10_code
abbrev cL_plan : ByteArray := method_11_code
abbrev cL_putOff : ByteArray := method_12_code
abbrev cL_fixture : ByteArray := method_13_code
abbrev cL_stateOf : ByteArray := method_14_code
abbrev cL_name : ByteArray := method_15_code
abbrev cL_kickOff : ByteArray := method_16_code
abbrev cL_goal : ByteArray := method_17_code
abbrev cL_card : ByteArray := method_18_code
abbrev cL_change : ByteArray := method_19_code
abbrev cL_end : ByteArray := method_20_code
abbrev cL_abandon : ByteArray := method_21_code
abbrev cL_appeal : ByteArray := method_22_code
abbrev cL_wipe : ByteArray := method_23_code
abbrev cL_ban : ByteArray := method_24_code
abbrev cL_yellows : ByteArray := method_25_code
abbrev cL_isGuilty : ByteArray := method_26_code
abbrev cL_resultOf : ByteArray := method_27_code
abbrev cL_takePoints : ByteArray := method_28_code
abbrev cL_strike : ByteArray := method_29_code
abbrev cL_clubAt : ByteArray := method_30_code
abbrev cL_points : ByteArray := method_31_code
abbrev cL_divisionOf : ByteArray := method_32_code
abbrev cL_registered : ByteArray := method_33_code
abbrev cL_endSeason : ByteArray := method_34_code
abbrev cL_overShare : ByteArray := method_35_code
abbrev cL_meanGoals : ByteArray := method_36_code
abbrev cL_law : ByteArray := code
def yJ7_fill_53178 : MethodName := ⟨RJ7, "fill", "([II)V"⟩
def yJx35411_hasNext_aae02 : MethodName := ⟨RJx35411, "hasNext", "()Z"⟩
def yJx35411_init_45d68 : MethodName := ⟨RJx35411, "<init>", "(Ljava/util/ArrayList;)V"⟩
def yJx4a65c_add_72be8 : MethodName := ⟨RJx4a65c, "add", "(Ljava/lang/Object;[Ljava/lang/Object;I)V"⟩
def yJx4a65c_add_9ea2d : MethodName := ⟨RJx4a65c, "add", "(Ljava/lang/Object;)Z"⟩
def yJx4a65c_clear_da8c8 : MethodName := ⟨RJx4a65c, "clear", "()V"⟩
def yJx4a65c_grow_92f84 : MethodName := ⟨RJx4a65c, "grow", "(I)[Ljava/lang/Object;"⟩
def yJx4a65c_grow_d5877 : MethodName := ⟨RJx4a65c, "grow", "()[Ljava/lang/Object;"⟩
def yJx4a65c_init_da8c8 : MethodName := ⟨RJx4a65c, "<init>", "()V"⟩
def yJx4a65c_isEmpty_aae02 : MethodName := ⟨RJx4a65c, "isEmpty", "()Z"⟩
def yJx4a65c_iterator_32c93 : MethodName := ⟨RJx4a65c, "iterator", "()Ljava/util/Iterator;"⟩
def yJx4a65c_size_8abf5 : MethodName := ⟨RJx4a65c, "size", "()I"⟩
def yJxa1e45_init_da8c8 : MethodName := ⟨RJxa1e45, "<init>", "()V"⟩
def yJxc12de_init_da8c8 : MethodName := ⟨RJxc12de, "<init>", "()V"⟩
def yL_abandon : MethodName := ⟨RL, "abandon", "(LGoalmouth;Z[J)I"⟩
def yL_addClub : MethodName := ⟨RL, "addClub", "(LGoalmouth;III[J)I"⟩
def yL_addPlayer : MethodName := ⟨RL, "addPlayer", "(LGoalmouth;I[J)I"⟩
def yL_appeal : MethodName := ⟨RL, "appeal", "(LGoalmouth;IZ[J)I"⟩
def yL_ban : MethodName := ⟨RL, "ban", "(LGoalmouth;I[J)I"⟩
def yL_callBack : MethodName := ⟨RL, "callBack", "(LGoalmouth;I[J)I"⟩
def yL_card : MethodName := ⟨RL, "card", "(LGoalmouth;IZ[J)I"⟩
def yL_change : MethodName := ⟨RL, "change", "(LGoalmouth;II[J)I"⟩
def yL_clubAt : MethodName := ⟨RL, "clubAt", "(LGoalmouth;II[J)I"⟩
def yL_divisionOf : MethodName := ⟨RL, "divisionOf", "(LGoalmouth;I[J)I"⟩
def yL_end : MethodName := ⟨RL, "end", "(LGoalmouth;[J)I"⟩
def yL_endSeason : MethodName := ⟨RL, "endSeason", "(LGoalmouth;[J)I"⟩
def yL_fixture : MethodName := ⟨RL, "fixture", "(LGoalmouth;IC[J)I"⟩
def yL_goOn : MethodName := ⟨RL, "goOn", "(LGoalmouth;I[J)I"⟩
def yL_goal : MethodName := ⟨RL, "goal", "(LGoalmouth;I[J)I"⟩
def yL_isGuilty : MethodName := ⟨RL, "isGuilty", "(LGoalmouth;IZ[J)I"⟩
def yL_kickOff : MethodName := ⟨RL, "kickOff", "(LGoalmouth;I[J)I"⟩
def yL_lend : MethodName := ⟨RL, "lend", "(LGoalmouth;II[J)I"⟩
def yL_meanGoals : MethodName := ⟨RL, "meanGoals", "(LGoalmouth;[D)I"⟩
def yL_name : MethodName := ⟨RL, "name", "(LGoalmouth;IZI[J)I"⟩
def yL_overShare : MethodName := ⟨RL, "overShare", "(LGoalmouth;[D)I"⟩
def yL_plan : MethodName := ⟨RL, "plan", "(LGoalmouth;I[J)I"⟩
def yL_points : MethodName := ⟨RL, "points", "(LGoalmouth;I[J)I"⟩
def yL_putOff : MethodName := ⟨RL, "putOff", "(LGoalmouth;II[J)I"⟩
def yL_registered : MethodName := ⟨RL, "registered", "(LGoalmouth;I[J)I"⟩
def yL_resultOf : MethodName := ⟨RL, "resultOf", "(LGoalmouth;I[J)I"⟩
def yL_sell : MethodName := ⟨RL, "sell", "(LGoalmouth;III[J)I"⟩
def yL_setDerby : MethodName := ⟨RL, "setDerby", "(LGoalmouth;IIZ[J)I"⟩
def yL_setWindow : MethodName := ⟨RL, "setWindow", "(LGoalmouth;II[J)I"⟩
def yL_stateOf : MethodName := ⟨RL, "stateOf", "(LGoalmouth;I[J)I"⟩
def yL_strike : MethodName := ⟨RL, "strike", "(LGoalmouth;IZ[J)I"⟩
def yL_takePoints : MethodName := ⟨RL, "takePoints", "(LGoalmouth;II[J)I"⟩
def yL_wipe : MethodName := ⟨RL, "wipe", "(LGoalmouth;[J)I"⟩
def yL_yellows : MethodName := ⟨RL, "yellows", "(LGoalmouth;I[J)I"⟩
def yX0_count : MethodName := ⟨RX0, "count", "(LGoalmouth$Event;)V"⟩
def yX0_countAnew : MethodName := ⟨RX0, "countAnew", "()V"⟩
def yX0_init : MethodName := ⟨RX0, "<init>", "()V"⟩
def yX0_isFull : MethodName := ⟨RX0, "isFull", "()Z"⟩
def yX0_isSameAnew : MethodName := ⟨RX0, "isSameAnew", "()Z"⟩
def yX0_playersWithYellows : MethodName := ⟨RX0, "playersWithYellows", "()I"⟩
def yX0_write : MethodName := ⟨RX0, "write", "(LGoalmouth$Event;)V"⟩
def yX11_init : MethodName := ⟨RX11, "<init>", "(III)V"⟩
def yX12_init : MethodName := ⟨RX12, "<init>", "(CLGoalmouthModel$Match;IZ)V"⟩
def yX15_abandon : MethodName := ⟨RX15, "abandon", "(Z)I"⟩
def yX15_addClub : MethodName := ⟨RX15, "addClub", "(III)I"⟩
def yX15_addPlayer : MethodName := ⟨RX15, "addPlayer", "(I)I"⟩
def yX15_appeal : MethodName := ⟨RX15, "appeal", "(IZ)Z"⟩
def yX15_ban : MethodName := ⟨RX15, "ban", "(I)I"⟩
def yX15_callBack : MethodName := ⟨RX15, "callBack", "(I)I"⟩
def yX15_card : MethodName := ⟨RX15, "card", "(IZ)I"⟩
def yX15_change : MethodName := ⟨RX15, "change", "(II)I"⟩
def yX15_clubAt : MethodName := ⟨RX15, "clubAt", "(II)I"⟩
def yX15_clubsIn : MethodName := ⟨RX15, "clubsIn", "(I)I"⟩
def yX15_counting : MethodName := ⟨RX15, "counting", "(I)Ljava/util/List;"⟩
def yX15_divisionOf : MethodName := ⟨RX15, "divisionOf", "(I)I"⟩
def yX15_end : MethodName := ⟨RX15, "end", "()I"⟩
def yX15_endSeason : MethodName := ⟨RX15, "endSeason", "()I"⟩
def yX15_fixture : MethodName := ⟨RX15, "fixture", "(IC)I"⟩
def yX15_goOn : MethodName := ⟨RX15, "goOn", "(I)I"⟩
def yX15_goal : MethodName := ⟨RX15, "goal", "(I)I"⟩
def yX15_goesThrough : MethodName := ⟨RX15, "goesThrough", "()V"⟩
def yX15_hasFixtures : MethodName := ⟨RX15, "hasFixtures", "(I)Z"⟩
def yX15_init : MethodName := ⟨RX15, "<init>", "()V"⟩
def yX15_isClub : MethodName := ⟨RX15, "isClub", "(I)Z"⟩
def yX15_isGuilty : MethodName := ⟨RX15, "isGuilty", "(IZ)Z"⟩
def yX15_isIn : MethodName := ⟨RX15, "isIn", "(JJJ)Z"⟩
def yX15_isOpen : MethodName := ⟨RX15, "isOpen", "()Z"⟩
def yX15_isPlayer : MethodName := ⟨RX15, "isPlayer", "(I)Z"⟩
def yX15_isSound : MethodName := ⟨RX15, "isSound", "()Z"⟩
def yX15_kickOff : MethodName := ⟨RX15, "kickOff", "(I)I"⟩
def yX15_lend : MethodName := ⟨RX15, "lend", "(II)I"⟩
def yX15_meanGoals : MethodName := ⟨RX15, "meanGoals", "()D"⟩
def yX15_money : MethodName := ⟨RX15, "money", "()J"⟩
def yX15_name : MethodName := ⟨RX15, "name", "(IZI)I"⟩
def yX15_no : MethodName := ⟨RX15, "no", "(ZI)Z"⟩
def yX15_noMatch : MethodName := ⟨RX15, "noMatch", "(I)Z"⟩
def yX15_noOn : MethodName := ⟨RX15, "noOn", "(I)Z"⟩
def yX15_over : MethodName := ⟨RX15, "over", "()I"⟩
def yX15_overShare : MethodName := ⟨RX15, "overShare", "()F"⟩
def yX15_plan : MethodName := ⟨RX15, "plan", "(I)I"⟩
def yX15_points : MethodName := ⟨RX15, "points", "(I)I"⟩
def yX15_putOff : MethodName := ⟨RX15, "putOff", "(II)I"⟩
def yX15_registered : MethodName := ⟨RX15, "registered", "(I)I"⟩
def yX15_resultOf : MethodName := ⟨RX15, "resultOf", "(I)I"⟩
def yX15_sell : MethodName := ⟨RX15, "sell", "(III)I"⟩
def yX15_setDerby : MethodName := ⟨RX15, "setDerby", "(IIZ)Z"⟩
def yX15_setWindow : MethodName := ⟨RX15, "setWindow", "(II)Z"⟩
def yX15_stateOf : MethodName := ⟨RX15, "stateOf", "(I)C"⟩
def yX15_strike : MethodName := ⟨RX15, "strike", "(IZ)Z"⟩
def yX15_table : MethodName := ⟨RX15, "table", "(I)Ljava/util/List;"⟩
def yX15_takePoints : MethodName := ⟨RX15, "takePoints", "(II)I"⟩
def yX15_thrown : MethodName := ⟨RX15, "thrown", "()I"⟩
def yX15_wipe : MethodName := ⟨RX15, "wipe", "()I"⟩
def yX15_yellows : MethodName := ⟨RX15, "yellows", "(I)I"⟩
def yX2_init : MethodName := ⟨RX2, "<init>", "(IIII)V"⟩
def yX3_init : MethodName := ⟨RX3, "<init>", "(ILGoalmouth$Side;II)V"⟩
def yX5_init : MethodName := ⟨RX5, "<init>", "()V"⟩
def yX8_addRows : MethodName := ⟨RX8, "addRows", "(ILjava/util/ArrayList;Z)V"⟩
def yX8_countAmong : MethodName := ⟨RX8, "countAmong", "(IILjava/util/ArrayList;)V"⟩
def yX8_draw : MethodName := ⟨RX8, "draw", "(ILjava/util/ArrayList;Ljava/util/ArrayList;)V"⟩
def yX8_firstToRise : MethodName := ⟨RX8, "firstToRise", "()LGoalmouth$Club;"⟩
def yX8_init : MethodName := ⟨RX8, "<init>", "()V"⟩
def yX8_partTies : MethodName := ⟨RX8, "partTies", "(IILjava/util/ArrayList;I)V"⟩
def yX8_sort : MethodName := ⟨RX8, "sort", "(II)V"⟩
def yX9_abandon : MethodName := ⟨RX9, "abandon", "(Z)I"⟩
def yX9_addClub : MethodName := ⟨RX9, "addClub", "(III)I"⟩
def yX9_addPlayer : MethodName := ⟨RX9, "addPlayer", "(I)I"⟩
def yX9_appeal : MethodName := ⟨RX9, "appeal", "(IZ)Z"⟩
def yX9_ban : MethodName := ⟨RX9, "ban", "(I)I"⟩
def yX9_callBack : MethodName := ⟨RX9, "callBack", "(I)I"⟩
def yX9_card : MethodName := ⟨RX9, "card", "(IZ)I"⟩
def yX9_change : MethodName := ⟨RX9, "change", "(II)I"⟩
def yX9_clearSeason : MethodName := ⟨RX9, "clearSeason", "()V"⟩
def yX9_clubAt : MethodName := ⟨RX9, "clubAt", "(II)I"⟩
def yX9_clubsIn : MethodName := ⟨RX9, "clubsIn", "(I)I"⟩
def yX9_divisionOf : MethodName := ⟨RX9, "divisionOf", "(I)I"⟩
def yX9_end : MethodName := ⟨RX9, "end", "()I"⟩
def yX9_endSeason : MethodName := ⟨RX9, "endSeason", "()I"⟩
def yX9_fixture : MethodName := ⟨RX9, "fixture", "(IC)I"⟩
def yX9_fixturesOver : MethodName := ⟨RX9, "fixturesOver", "()I"⟩
def yX9_goOn : MethodName := ⟨RX9, "goOn", "(I)I"⟩
def yX9_goal : MethodName := ⟨RX9, "goal", "(I)I"⟩
def yX9_hasFixtures : MethodName := ⟨RX9, "hasFixtures", "(I)Z"⟩
def yX9_init : MethodName := ⟨RX9, "<init>", "()V"⟩
def yX9_isDivision : MethodName := ⟨RX9, "isDivision", "(I)Z"⟩
def yX9_isFixtureLeft : MethodName := ⟨RX9, "isFixtureLeft", "()Z"⟩
def yX9_isGuilty : MethodName := ⟨RX9, "isGuilty", "(IZ)Z"⟩
def yX9_isSound : MethodName := ⟨RX9, "isSound", "()Z"⟩
def yX9_isWindowOpen : MethodName := ⟨RX9, "isWindowOpen", "()Z"⟩
def yX9_isWithin : MethodName := ⟨RX9, "isWithin", "(III)Z"⟩
def yX9_kickOff : MethodName := ⟨RX9, "kickOff", "(I)I"⟩
def yX9_knownBit : MethodName := ⟨RX9, "knownBit", "(I)I"⟩
def yX9_knownClub : MethodName := ⟨RX9, "knownClub", "(I)LGoalmouth$Club;"⟩
def yX9_knownFixture : MethodName := ⟨RX9, "knownFixture", "(I)LGoalmouth$Fixture;"⟩
def yX9_knownMatch : MethodName := ⟨RX9, "knownMatch", "()LGoalmouth$Fixture;"⟩
def yX9_knownPlayer : MethodName := ⟨RX9, "knownPlayer", "(I)LGoalmouth$Player;"⟩
def yX9_lend : MethodName := ⟨RX9, "lend", "(II)I"⟩
def yX9_meanGoals : MethodName := ⟨RX9, "meanGoals", "()D"⟩
def yX9_money : MethodName := ⟨RX9, "money", "()J"⟩
def yX9_name : MethodName := ⟨RX9, "name", "(IZI)I"⟩
def yX9_overShare : MethodName := ⟨RX9, "overShare", "()F"⟩
def yX9_plan : MethodName := ⟨RX9, "plan", "(I)I"⟩
def yX9_points : MethodName := ⟨RX9, "points", "(I)I"⟩
def yX9_putOff : MethodName := ⟨RX9, "putOff", "(II)I"⟩
def yX9_registered : MethodName := ⟨RX9, "registered", "(I)I"⟩
def yX9_resultOf : MethodName := ⟨RX9, "resultOf", "(I)I"⟩
def yX9_sell : MethodName := ⟨RX9, "sell", "(III)I"⟩
def yX9_setDerby : MethodName := ⟨RX9, "setDerby", "(IIZ)Z"⟩
def yX9_setWindow : MethodName := ⟨RX9, "setWindow", "(II)Z"⟩
def yX9_stateOf : MethodName := ⟨RX9, "stateOf", "(I)C"⟩
def yX9_strike : MethodName := ⟨RX9, "strike", "(IZ)Z"⟩
def yX9_takePoints : MethodName := ⟨RX9, "takePoints", "(II)I"⟩
def yX9_wipe : MethodName := ⟨RX9, "wipe", "()I"⟩
def yX9_yellows : MethodName := ⟨RX9, "yellows", "(I)I"⟩
def yF0 : MethodName := ⟨"java/util/List", "size", "()I"⟩
def yF1 : MethodName := ⟨"java/util/List", "add", "(Ljava/lang/Object;)Z"⟩
def yF2 : MethodName := ⟨"java/util/List", "iterator", "()Ljava/util/Iterator;"⟩
def yF3 : MethodName := ⟨"java/util/Iterator", "hasNext", "()Z"⟩
def yF4 : MethodName := ⟨"java/util/List", "clear", "()V"⟩
def yF5 : MethodName := ⟨"java/util/List", "isEmpty", "()Z"⟩
def vwC9 : List vw_C := [(RJx35411, TJx35411, 4), (RJx4a65c, TJx4a65c, 3), (RX0, TX0, 6), (RX2, TX2, 15), (RX3, TX3, 6), (RX5, TX5, 7), (RX8, TX8, 1), (RX9, TX9, 10), (RX11, TX11, 6), (RX12, TX12, 5), (RX15, TX15, 13)]
/-! tables: the words that the rows rest on, and numbers for owners, fields, calls, throws -/
def clsN : List String := [RJ7, RJx35411, RJx4a65c, RJxa1e45, RJxc12de, RL, RX0, RX11, RX12, RX15, RX2, RX3, RX5, RX8, RX9]
/-- the words that stand at these gaps -/
def pickG : List Nat → List Cond → List Cond
  | [], _ => []
  | g :: gs, l => match l.drop g with
    | [] => []
    | c :: r => c :: pickG gs r
def lwB : List Cond := pickG [0, 5, 0, 0, 0, 0, 0, 0, 0, 2, 1, 1, 2, 0, 0, 0, 1, 0, 0, 0, 0, 0, 0, 0, 0, 2, 2, 1, 3, 0, 7, 0, 0, 0, 0, 0, 0, 0, 0, 0, 3, 2, 0, 1, 0, 0, 0, 1, 0, 12, 0, 5, 0, 0, 0, 0, 0, 0, 0, 0, 0, 0, 0, 0, 0, 0, 0, 0, 0, 0, 0, 0, 0, 1, 1, 0, 0, 0, 0, 0, 0, 1, 1, 2, 0, 0, 0, 0, 0, 0, 0, 0, 0, 0, 0, 1, 1, 0, 0, 1, 1, 1, 1, 1, 2, 0, 0, 0, 0, 0, 0, 0, 0, 0, 0, 0, 0, 0, 0, 1, 1, 1, 1, 1, 1, 1, 2, 0, 0, 0, 0, 0, 0, 0, 0, 0, 1, 2, 0, 0, 0, 0, 0, 0, 0, 0, 0, 0, 1, 1, 1, 1, 1, 1, 1, 1, 1, 2, 0, 0, 0, 0, 0, 0, 0, 14, 0, 0, 0, 0, 25, 0, 0, 0, 0, 0, 0, 0, 0, 0, 0, 0, 0, 0, 0, 2, 1, 0, 13, 0, 18, 0, 0, 0, 0, 0, 0, 0, 0, 0, 0, 0, 0, 0, 0, 0, 0, 0, 1, 69, 1, 0, 0, 1, 13, 0, 0, 0, 0, 0, 0, 1, 2, 1, 3, 18, 1, 1, 1, 1, 1, 1, 1, 1, 1, 1, 1, 1, 1, 1, 2, 0, 0, 0, 0, 1, 0, 0, 1, 0, 0, 1, 0, 47, 5, 0, 0, 0, 0, 0, 23, 0, 0, 0, 0, 1, 0, 0, 1, 30, 0, 0, 0, 0, 0, 0, 1, 1, 0, 0, 0, 0, 0, 0, 0, 0, 2, 0, 0, 0, 0, 0, 0, 0, 0, 1, 0, 8, 16, 0, 0, 0, 0, 0, 0, 2, 0, 0, 0, 0, 0, 0, 1, 0, 0, 0, 0, 0, 0, 9, 0, 0, 0, 0, 0, 0, 0, 1, 1, 0, 6, 0, 0, 20, 100, 0, 0, 0, 0, 0, 0, 0, 1, 0, 16, 0, 0, 0, 0, 0, 0, 1, 0, 0, 0, 0, 0, 0, 0, 0, 0, 0, 0, 0, 0, 0, 1, 0, 14, 0, 0, 0, 0, 0, 0, 1, 0, 0, 0, 9, 0, 0, 0, 0, 0, 0, 0, 0, 1, 1, 5, 1, 1, 1, 1, 1, 2, 0, 0, 0, 0, 0, 0, 0, 0, 0, 0, 0, 0, 1, 0, 10, 0, 0, 0, 0, 0, 0, 21, 0, 0, 0, 0, 0, 0, 6, 0, 0, 0, 0, 0, 0, 8, 0, 0, 0, 0, 0, 0, 0, 0, 0, 0, 0, 0, 0, 2, 0, 0, 0, 0, 0, 0, 0, 0, 0, 0, 0, 0, 0, 0, 0, 0, 0, 0, 0, 0, 0, 0, 0, 0, 0, 0, 0, 0, 0, 0, 0, 1, 0, 0, 0, 0, 0, 0, 2, 0, 0, 0, 0, 0, 0, 1, 0, 0, 0, 0, 0, 0, 0, 0, 0, 0, 0, 0, 0, 1, 0, 0, 0, 0, 0, 2, 1, 0, 1, 1, 0, 12, 1, 0, 4, 1, 0, 4, 0, 0, 0, 0, 0, 0, 0, 0, 0, 0, 0, 0, 0, 0, 0, 0, 0, 0, 0, 0, 0, 0, 0, 0, 0, 0, 0, 0, 1, 0, 5, 0, 0, 0, 5, 1, 0, 1, 0, 0, 0, 0, 0, 0, 11, 1, 0, 0, 0, 0, 2, 1, 0, 0, 0, 0, 0, 0, 0, 0, 2, 0, 0, 0, 0, 0, 0, 0, 0, 0, 0, 0, 0, 0, 0, 0, 0, 0, 0, 0, 0, 0, 1, 1, 1, 1, 1, 1, 1, 1, 1, 1, 1, 1, 2, 0, 0, 0, 0, 0, 0, 0, 0, 0, 0, 0, 0, 0, 1, 0, 0, 1, 0, 1, 0, 0, 0, 0, 0, 0, 0, 0, 0, 0, 0, 0, 0, 0, 0, 0, 0, 0, 0, 1, 1, 1, 3, 0, 0, 0, 0, 0, 0, 0, 0, 24, 1, 0, 0, 0, 0, 0, 0, 0, 0, 0, 0, 0, 1, 1, 1, 1, 1, 1, 1, 1, 1, 1, 1, 3, 0, 0, 0, 0, 0, 0, 0, 0, 0, 0, 1, 0, 19, 0, 0, 0, 0, 0, 1, 0, 0, 0, 0, 0, 0, 0, 0, 0, 0, 0, 1, 0, 11, 0, 0, 0, 0, 0, 0, 0, 0, 0, 0, 0, 0, 0, 0, 0, 0, 1, 0, 85, 0, 0, 0, 0, 1, 0, 8, 0, 0, 0, 0, 0, 0, 0, 0, 0, 0, 0, 81, 0, 0, 0, 22, 1, 0, 0, 10, 0, 0, 0, 0, 0, 0, 0, 1, 1, 1, 1, 1, 1, 1, 1, 1, 2, 0, 0, 0, 0, 1, 0, 7, 0, 0, 0, 35, 0, 0, 0, 0, 0, 0, 0, 4, 0, 0, 0, 0, 0, 0, 0, 0, 0, 0, 0, 0, 0, 0, 0, 0, 0, 0, 0, 0, 0, 0, 0, 0, 0, 0, 0, 3, 0, 0, 0, 1, 0, 0, 0, 0, 0, 0, 0, 0, 1, 0, 0, 1, 0, 1, 0, 0, 0, 0, 0, 302, 0, 0, 0, 0, 0, 0, 0, 0, 0, 0, 0, 0, 0, 0, 0, 1, 0, 0, 0, 0, 0, 0, 0, 0, 0, 0, 0, 0, 0, 0, 1, 0, 0, 0, 0, 0, 0, 0, 0, 0, 0, 0, 19, 2, 8, 0] lw_tbl
def lwA : List Cond := lwB ++ ((vx_atS RX9 69 "java/lang/IllegalArgumentException" ["java/lang/RuntimeException", "java/lang/Exception"]) ++ (vx_atS RX9 360 "java/lang/IndexOutOfBoundsException" ["java/lang/RuntimeException", "java/lang/Exception"]) ++ (vx_atS RX9 80 "java/lang/IllegalStateException" ["java/lang/RuntimeException", "java/lang/Exception"]) ++ (vx_atS RX9 435 "java/lang/ArithmeticException" ["java/lang/RuntimeException", "java/lang/Exception"]))
def fT : List (Nat × Nat × Nat × Nat × Nat × Bool) := [(1, 25, 0, 0, 0, false), (1, 1, 0, 3, 4, true), (1, 13, 0, 1, 0, false), (1, 17, 1, 0, 0, false), (1, 22, 0, 2, 0, false), (2, 48, 1, 2, 0, false), (2, 63, 1, 0, 0, false), (2, 9, 1, 1, 4, false), (4, 7, 1, 0, 0, false), (6, 77, 4, 0, 3, true), (6, 25, 2, 3, 4, true), (6, 21, 2, 2, 4, true), (6, 12, 2, 0, 4, true), (6, 18, 2, 1, 4, true), (6, 28, 2, 4, 4, true), (6, 31, 2, 5, 4, true), (7, 7, 8, 3, 0, false), (7, 13, 8, 4, 0, false), (7, 16, 8, 5, 1, false), (7, 20, 8, 2, 0, false), (7, 23, 8, 0, 0, true), (7, 26, 8, 1, 0, true), (8, 10, 9, 4, 4, true), (8, 16, 9, 0, 2, true), (8, 20, 9, 1, 4, true), (8, 24, 9, 2, 0, true), (8, 28, 9, 3, 1, true), (9, 46, 10, 12, 4, false), (9, 10, 10, 0, 4, true), (9, 22, 10, 3, 4, true), (9, 19, 10, 2, 4, true), (9, 25, 10, 4, 4, true), (9, 174, 10, 9, 0, false), (9, 32, 10, 6, 4, true), (9, 36, 10, 7, 4, true), (9, 16, 10, 1, 4, true), (9, 28, 10, 5, 4, true), (9, 39, 10, 10, 0, false), (9, 43, 10, 11, 0, false), (9, 50, 10, 8, 0, false), (10, 9, 3, 0, 0, true), (10, 15, 3, 3, 0, false), (10, 18, 3, 1, 0, true), (10, 21, 3, 2, 0, true), (10, 24, 3, 4, 0, false), (11, 7, 4, 0, 0, true), (11, 13, 4, 1, 4, true), (11, 17, 4, 2, 0, true), (11, 20, 4, 3, 0, true), (12, 12, 5, 0, 4, true), (12, 18, 5, 1, 4, true), (12, 21, 5, 2, 4, true), (12, 25, 5, 3, 4, true), (12, 28, 5, 4, 4, true), (12, 31, 5, 5, 4, true), (13, 12, 6, 0, 4, true), (14, 10, 7, 0, 4, true), (14, 94, 3, 0, 3, true), (14, 25, 7, 3, 4, true), (14, 268, 2, 1, 3, true), (14, 19, 7, 2, 4, true), (14, 53, 7, 9, 4, false), (14, 39, 7, 5, 4, true), (14, 43, 7, 6, 0, false), (14, 16, 7, 1, 4, true), (14, 32, 7, 4, 4, true), (14, 47, 7, 7, 0, false), (14, 50, 7, 8, 0, false)]
def fnT : List (Nat × Nat × Nat × Nat) := [(1, 28, 1, 2)]
abbrev rVv : Type := Value ⊕ (Bool × Nat)
def newT : List (Nat × Nat × Nat × Nat × List rVv) := [(5, 8, 7, 10, [.inl .null, .inl .null, .inl .null, .inl .null, .inl .null, .inl .null, .inl (.int 0), .inl (.int 0), .inl (.int 0), .inl .null]), (5, 138, 10, 13, [.inl .null, .inl .null, .inl .null, .inl .null, .inl .null, .inl .null, .inl .null, .inl .null, .inl (.int 0), .inl (.int 0), .inl (.int 0), .inl (.int 0), .inl .null]), (2, 267, 0, 4, [.inl (.int 0), .inl (.int 0), .inl (.int 0), .inl .null]), (6, 9, 1, 3, [.inl (.int 0), .inl .null, .inl (.int 0)]), (8, 7, 1, 3, [.inl (.int 0), .inl .null, .inl (.int 0)]), (9, 146, 8, 6, [.inl (.int 0), .inl (.int 0), .inl (.int 0), .inl (.int 0), .inl (.int 0), .inl (.int 0)]), (9, 7, 1, 3, [.inl (.int 0), .inl .null, .inl (.int 0)]), (9, 81, 9, 5, [.inl (.int 0), .inl .null, .inl (.int 0), .inl (.int 0), .inl .null]), (12, 9, 1, 3, [.inl (.int 0), .inl .null, .inl (.int 0)]), (13, 9, 1, 3, [.inl (.int 0), .inl .null, .inl (.int 0)]), (14, 81, 3, 15, [.inl (.int 0), .inl (.int 0), .inl (.int 0), .inl (.int 0), .inl (.int 0), .inl (.int 0), .inl (.int 0), .inl (.int 0), .inl (.int 0), .inl (.int 0), .inl (.int 0), .inl (.int 0), .inl (.int 0), .inl (.int 0), .inl (.int 0)]), (14, 288, 4, 6, [.inl (.int 0), .inl .null, .inl (.int 0), .inl (.int 0), .inl (.int 0), .inl (.int 0)]), (14, 7, 1, 3, [.inl (.int 0), .inl .null, .inl (.int 0)]), (14, 22, 2, 6, [.inl .null, .inl .null, .inl .null, .inl .null, .inl .null, .inl .null]), (14, 29, 5, 7, [.inl .null, .inl .null, .inl .null, .inl .null, .inl .null, .inl .null, .inl (.int 0)]), (14, 36, 6, 1, [.inl .null])]
def anT : List (Nat × Nat) := [(2, 7)]
def gsT : List (Nat × Nat) := [(2, 39)]
def oiT : List (Nat × Nat) := [(1, 7), (3, 1), (6, 3), (7, 1), (8, 1), (9, 1), (10, 3), (11, 1), (12, 3), (13, 3), (14, 1)]
def mxT : List (Nat × Nat) := [(2, 79)]
def acT : List (Nat × Nat) := [(6, 68)]
def ldT : List (Nat × Nat × Int64) := [(9, 151, 7), (9, 153, 3), (9, 182, 99), (9, 177, 9999), (14, 454, 1000)]
def caT : List Nat := [3, 4, 8, 9]
def rSw : Array Int := #[160, 240, 296, 371, 427, 507, 575, 631, 734, 790, 858, 928, 984, 1080, 1136, 1192, 1276, 1344, 1388, 1460, 1551, 1595, 1651, 1707, 1798, 1854, 1922, 2013, 2081, 2137, 2193, 2249, 2293, 2307, 2373, 2438]
/-- calls: the sort (0 virtual, 1 special, 2 static, 3 a nest mate's constructor, 4 by interface, 5 static with a table), whose code, by which entry, which method, how many values it takes, the kind of the receiver, the count -/
def cT : List (Nat × Nat × Nat × Nat × Nat × Nat × Nat) := [(1, 5, 137, 138, 1, 0, 0), (1, 5, 140, 77, 1, 0, 0), (5, 5, 141, 16, 5, 0, 0), (0, 5, 146, 59, 4, 10, 0), (0, 5, 147, 106, 1, 10, 0), (5, 5, 150, 17, 3, 0, 0), (0, 5, 153, 60, 2, 10, 0), (5, 5, 154, 43, 4, 0, 0), (0, 5, 157, 101, 3, 10, 0), (5, 5, 158, 28, 3, 0, 0), (0, 5, 160, 73, 2, 10, 0), (5, 5, 161, 41, 5, 0, 0), (0, 5, 163, 99, 4, 10, 0), (5, 5, 164, 32, 4, 0, 0), (0, 5, 166, 85, 3, 10, 0), (5, 5, 167, 20, 3, 0, 0), (0, 5, 169, 63, 2, 10, 0), (5, 5, 170, 42, 5, 0, 0), (0, 5, 173, 100, 4, 10, 0), (5, 5, 174, 36, 3, 0, 0), (0, 5, 176, 94, 2, 10, 0), (5, 5, 177, 38, 4, 0, 0), (0, 5, 179, 96, 3, 10, 0), (5, 5, 180, 27, 4, 0, 0), (0, 5, 183, 72, 3, 10, 0), (5, 5, 184, 44, 3, 0, 0), (0, 5, 186, 102, 2, 10, 0), (5, 5, 187, 34, 5, 0, 0), (0, 5, 190, 88, 4, 10, 0), (5, 5, 191, 31, 3, 0, 0), (0, 5, 193, 84, 2, 10, 0), (5, 5, 194, 29, 3, 0, 0), (0, 5, 196, 74, 2, 10, 0), (5, 5, 197, 21, 4, 0, 0), (0, 5, 200, 64, 3, 10, 0), (5, 5, 201, 22, 4, 0, 0), (0, 5, 203, 65, 3, 10, 0), (5, 5, 204, 25, 2, 0, 0), (0, 5, 207, 70, 1, 10, 0), (5, 5, 208, 15, 3, 0, 0), (0, 5, 211, 58, 2, 10, 0), (5, 5, 212, 18, 4, 0, 0), (0, 5, 214, 61, 3, 10, 0), (5, 5, 215, 47, 2, 0, 0), (0, 5, 217, 107, 1, 10, 0), (5, 5, 218, 19, 3, 0, 0), (0, 5, 220, 62, 2, 10, 0), (5, 5, 221, 48, 3, 0, 0), (0, 5, 223, 108, 2, 10, 0), (5, 5, 224, 30, 4, 0, 0), (0, 5, 226, 79, 3, 10, 0), (5, 5, 227, 40, 3, 0, 0), (0, 5, 229, 98, 2, 10, 0), (5, 5, 230, 46, 4, 0, 0), (0, 5, 232, 105, 3, 10, 0), (5, 5, 233, 45, 4, 0, 0), (0, 5, 235, 103, 3, 10, 0), (5, 5, 236, 23, 4, 0, 0), (0, 5, 238, 66, 3, 10, 0), (5, 5, 239, 37, 3, 0, 0), (0, 5, 241, 95, 2, 10, 0), (5, 5, 242, 24, 3, 0, 0), (0, 5, 244, 69, 2, 10, 0), (5, 5, 245, 39, 3, 0, 0), (0, 5, 247, 97, 2, 10, 0), (5, 5, 248, 26, 2, 0, 0), (0, 5, 250, 71, 1, 10, 0), (0, 5, 251, 153, 1, 7, 0), (0, 5, 255, 87, 1, 10, 0), (5, 5, 256, 35, 2, 0, 0), (0, 5, 259, 93, 1, 10, 0), (5, 5, 260, 33, 2, 0, 0), (0, 5, 262, 86, 1, 10, 0), (0, 5, 263, 142, 1, 7, 0), (0, 5, 267, 83, 1, 10, 0), (0, 2, 129, 8, 1, 1, 0), (0, 2, 131, 4, 4, 1, 0), (0, 2, 69, 7, 2, 1, 0), (1, 2, 1, 14, 1, 0, 0), (1, 2, 269, 3, 2, 0, 0), (1, 4, 1, 13, 1, 0, 0), (0, 5, 83, 119, 2, 7, 0), (0, 5, 7, 120, 4, 7, 0), (0, 5, 17, 121, 2, 7, 0), (0, 5, 87, 122, 3, 7, 0), (0, 5, 94, 123, 2, 7, 0), (0, 5, 39, 124, 2, 7, 0), (0, 5, 72, 125, 3, 7, 0), (0, 5, 76, 126, 3, 7, 0), (0, 5, 112, 128, 3, 7, 0), (0, 5, 118, 130, 2, 7, 0), (0, 5, 79, 131, 1, 7, 0), (0, 5, 124, 132, 1, 7, 0), (0, 5, 54, 133, 3, 7, 0), (0, 5, 27, 135, 2, 7, 0), (0, 5, 69, 136, 2, 7, 0), (0, 5, 100, 141, 3, 7, 0), (0, 5, 66, 145, 2, 7, 0), (0, 5, 35, 151, 3, 7, 0), (0, 5, 133, 152, 1, 7, 0), (0, 5, 62, 154, 4, 7, 0), (0, 5, 127, 155, 1, 7, 0), (0, 5, 46, 156, 2, 7, 0), (0, 5, 115, 157, 2, 7, 0), (0, 5, 51, 158, 3, 7, 0), (0, 5, 121, 159, 2, 7, 0), (0, 5, 103, 160, 2, 7, 0), (0, 5, 30, 161, 4, 7, 0), (0, 5, 42, 162, 4, 7, 0), (0, 5, 23, 163, 3, 7, 0), (0, 5, 58, 164, 2, 7, 0), (0, 5, 109, 165, 3, 7, 0), (0, 5, 106, 166, 3, 7, 0), (0, 5, 91, 167, 1, 7, 0), (0, 5, 97, 168, 2, 7, 0), (2, 6, 46, 1, 2, 0, 0), (0, 6, 34, 12, 1, 1, 0), (1, 6, 11, 9, 1, 0, 0), (0, 6, 74, 50, 1, 2, 0), (0, 6, 38, 5, 2, 1, 0), (0, 6, 42, 49, 2, 2, 0), (1, 8, 9, 9, 1, 0, 0), (0, 9, 63, 89, 3, 10, 0), (2, 9, 59, 80, 3, 0, 0), (0, 9, 155, 67, 2, 10, 0), (4, 9, 53, 12, 1, 1, 1), (1, 9, 158, 56, 4, 0, 0), (4, 9, 161, 5, 2, 1, 2), (0, 9, 165, 78, 2, 10, 0), (0, 9, 184, 82, 2, 10, 0), (0, 9, 265, 91, 2, 10, 0), (4, 9, 67, 11, 1, 1, 1), (4, 9, 71, 2, 1, 0, 1), (1, 9, 9, 9, 1, 0, 0), (0, 9, 253, 75, 1, 10, 0), (0, 9, 344, 104, 2, 10, 0), (4, 9, 350, 6, 1, 1, 1), (1, 9, 256, 57, 5, 0, 0), (0, 9, 237, 90, 2, 10, 0), (0, 9, 353, 92, 1, 10, 0), (4, 9, 313, 10, 1, 1, 1), (0, 9, 224, 76, 2, 10, 0), (0, 9, 179, 81, 1, 10, 0), (0, 9, 305, 68, 2, 10, 0), (1, 12, 11, 9, 1, 0, 0), (0, 13, 21, 12, 1, 1, 0), (0, 13, 18, 6, 1, 1, 0), (0, 13, 35, 112, 4, 6, 0), (0, 13, 39, 113, 4, 6, 0), (0, 13, 65, 118, 3, 6, 0), (0, 13, 69, 117, 5, 6, 0), (1, 13, 11, 9, 1, 0, 0), (0, 14, 297, 149, 1, 7, 0), (2, 14, 57, 139, 1, 0, 0), (2, 14, 61, 144, 3, 0, 0), (0, 14, 72, 129, 2, 7, 0), (0, 14, 83, 12, 1, 1, 0), (1, 14, 87, 109, 5, 0, 0), (0, 14, 90, 5, 2, 1, 0), (0, 14, 97, 147, 2, 7, 0), (0, 14, 118, 150, 2, 7, 0), (0, 14, 237, 146, 2, 7, 0), (0, 14, 428, 6, 1, 1, 0), (1, 14, 290, 110, 5, 0, 0), (0, 14, 293, 55, 2, 2, 0), (0, 14, 410, 140, 1, 7, 0), (0, 14, 263, 52, 1, 2, 0), (0, 14, 397, 114, 4, 6, 0), (0, 14, 415, 115, 1, 6, 0), (0, 14, 422, 127, 1, 7, 0), (0, 14, 191, 148, 2, 7, 0), (1, 14, 9, 9, 1, 0, 0), (3, 14, 24, 51, 1, 0, 0), (3, 14, 31, 111, 1, 0, 0), (3, 14, 38, 116, 1, 0, 0), (0, 14, 448, 53, 1, 2, 0), (0, 14, 456, 153, 1, 7, 0), (0, 14, 436, 134, 1, 7, 0), (0, 14, 167, 137, 2, 7, 0), (0, 14, 110, 143, 1, 7, 0), (0, 14, 367, 54, 1, 2, 0)]
def tT : List (Nat × Nat × Nat × Nat × Nat × Bool) := [(14, 65, 67, 69, 0, false), (14, 356, 358, 360, 2, true), (14, 65, 165, 69, 0, false), (14, 356, 395, 360, 2, true), (14, 65, 114, 69, 0, false), (14, 356, 459, 360, 2, true), (14, 356, 463, 360, 2, true), (14, 76, 465, 80, 1, true), (14, 356, 461, 360, 2, true), (14, 431, 439, 435, 3, true), (14, 431, 433, 435, 3, true), (14, 76, 170, 80, 1, false), (14, 65, 108, 69, 0, false)]
def exN : List String := ["java/lang/IllegalArgumentException", "java/lang/IllegalStateException", "java/lang/IndexOutOfBoundsException", "java/lang/ArithmeticException", "java/lang/UnsupportedOperationException", "java/util/NoSuchElementException"]
/-- methods: owner, sort of its answer, its table, its locals, whether a constructor -/
def mI : List (Nat × Nat × List (Nat × Nat × Nat × Nat) × Nat × Bool) := [(5, 6, [], 9, false),
  (0, 0, [], 4, false),
  (1, 6, [], 1, false),
  (1, 0, [], 2, true),
  (2, 0, [], 4, false),
  (2, 6, [], 2, false),
  (2, 0, [], 4, false),
  (2, 3, [], 4, false),
  (2, 3, [], 1, false),
  (2, 0, [], 1, true),
  (2, 6, [], 1, false),
  (2, 3, [], 1, false),
  (2, 1, [], 1, false),
  (3, 0, [], 1, true),
  (4, 0, [], 1, true),
  (5, 1, [(0, 9, 12, 1)], 4, false),
  (5, 1, [(0, 12, 15, 0), (0, 12, 19, 1)], 6, false),
  (5, 1, [(0, 9, 12, 2), (0, 9, 15, 1)], 4, false),
  (5, 1, [(0, 17, 20, 2)], 5, false),
  (5, 1, [(0, 9, 12, 2)], 4, false),
  (5, 1, [(0, 9, 12, 2), (0, 9, 15, 4)], 4, false),
  (5, 1, [(0, 10, 13, 2), (0, 10, 17, 1), (0, 10, 21, 4)], 5, false),
  (5, 1, [(0, 10, 13, 2), (0, 10, 17, 1), (0, 10, 21, 4)], 5, false),
  (5, 1, [(0, 10, 13, 0), (0, 10, 17, 2)], 5, false),
  (5, 1, [(0, 9, 12, 2)], 4, false),
  (5, 1, [(0, 8, 11, 1)], 3, false),
  (5, 1, [(0, 8, 11, 1)], 3, false),
  (5, 1, [(0, 10, 13, 2), (0, 10, 17, 0)], 5, false),
  (5, 1, [(0, 9, 12, 0), (0, 9, 15, 1)], 4, false),
  (5, 1, [(0, 9, 12, 2), (0, 9, 15, 1), (0, 9, 18, 4)], 4, false),
  (5, 1, [(0, 17, 20, 2), (0, 17, 24, 4)], 5, false),
  (5, 1, [(0, 9, 12, 2), (0, 9, 15, 4), (0, 9, 18, 1)], 4, false),
  (5, 1, [(0, 10, 13, 2), (0, 10, 17, 0), (0, 10, 21, 4)], 5, false),
  (5, 1, [(0, 7, 10, 3)], 3, false),
  (5, 1, [(0, 12, 15, 2), (0, 12, 19, 4), (0, 12, 23, 0), (0, 12, 27, 1)], 6, false),
  (5, 1, [(0, 8, 11, 3)], 3, false),
  (5, 1, [(0, 9, 12, 0), (0, 9, 15, 1), (0, 9, 18, 5)], 4, false),
  (5, 1, [(0, 9, 12, 2)], 4, false),
  (5, 1, [(0, 10, 13, 2), (0, 10, 17, 0), (0, 10, 21, 4)], 5, false),
  (5, 1, [(0, 9, 12, 2)], 4, false),
  (5, 1, [(0, 9, 12, 2), (0, 9, 15, 4)], 4, false),
  (5, 1, [(0, 12, 15, 2), (0, 12, 19, 0), (0, 12, 23, 4)], 6, false),
  (5, 1, [(0, 19, 22, 2), (0, 19, 26, 0)], 6, false),
  (5, 1, [(0, 17, 20, 0)], 5, false),
  (5, 1, [(0, 9, 12, 2)], 4, false),
  (5, 1, [(0, 17, 20, 2), (0, 17, 24, 1)], 5, false),
  (5, 1, [(0, 10, 13, 2), (0, 10, 17, 0)], 5, false),
  (5, 1, [(0, 8, 11, 1)], 3, false),
  (5, 1, [(0, 9, 12, 2)], 4, false),
  (6, 0, [], 2, false),
  (6, 0, [], 3, false),
  (6, 0, [], 1, true),
  (6, 6, [], 1, false),
  (6, 6, [], 2, false),
  (6, 1, [], 3, false),
  (6, 0, [], 2, false),
  (7, 0, [], 4, true),
  (8, 0, [], 5, true),
  (9, 1, [], 3, false),
  (9, 1, [], 4, false),
  (9, 1, [], 2, false),
  (9, 6, [], 4, false),
  (9, 1, [], 2, false),
  (9, 1, [], 3, false),
  (9, 1, [], 6, false),
  (9, 1, [], 5, false),
  (9, 1, [], 3, false),
  (9, 1, [], 5, false),
  (9, 3, [], 4, false),
  (9, 1, [], 2, false),
  (9, 1, [], 2, false),
  (9, 1, [], 7, false),
  (9, 1, [], 4, false),
  (9, 1, [], 2, false),
  (9, 1, [], 2, false),
  (9, 0, [], 5, false),
  (9, 6, [], 5, false),
  (9, 0, [], 1, true),
  (9, 6, [], 2, false),
  (9, 6, [], 3, false),
  (9, 6, [], 6, false),
  (9, 6, [], 1, false),
  (9, 6, [], 2, false),
  (9, 6, [], 1, false),
  (9, 1, [], 7, false),
  (9, 1, [], 4, false),
  (9, 5, [], 4, false),
  (9, 2, [], 5, false),
  (9, 1, [], 6, false),
  (9, 6, [], 3, false),
  (9, 6, [], 2, false),
  (9, 6, [], 2, false),
  (9, 1, [], 4, false),
  (9, 4, [], 1, false),
  (9, 1, [], 5, false),
  (9, 1, [], 2, false),
  (9, 1, [], 5, false),
  (9, 1, [], 2, false),
  (9, 1, [], 3, false),
  (9, 1, [], 6, false),
  (9, 6, [], 5, false),
  (9, 6, [], 3, false),
  (9, 7, [], 2, false),
  (9, 6, [], 4, false),
  (9, 3, [], 8, false),
  (9, 1, [], 3, false),
  (9, 1, [], 1, false),
  (9, 1, [], 6, false),
  (9, 1, [], 2, false),
  (10, 0, [], 5, true),
  (11, 0, [], 5, true),
  (12, 0, [], 1, true),
  (13, 0, [], 6, false),
  (13, 0, [], 10, false),
  (13, 0, [], 7, false),
  (13, 3, [], 3, false),
  (13, 0, [], 1, true),
  (13, 0, [], 7, false),
  (13, 0, [], 6, false),
  (14, 1, [], 3, false),
  (14, 1, [], 5, false),
  (14, 1, [], 3, false),
  (14, 6, [], 5, false),
  (14, 1, [], 2, false),
  (14, 1, [], 4, false),
  (14, 1, [], 6, false),
  (14, 1, [], 7, false),
  (14, 0, [], 3, false),
  (14, 1, [], 3, false),
  (14, 1, [], 4, false),
  (14, 1, [], 2, false),
  (14, 1, [], 2, false),
  (14, 1, [], 3, false),
  (14, 1, [], 4, false),
  (14, 1, [], 3, false),
  (14, 1, [], 2, false),
  (14, 1, [], 5, false),
  (14, 6, [], 3, false),
  (14, 0, [], 1, true),
  (14, 6, [], 1, false),
  (14, 6, [], 3, false),
  (14, 6, [], 4, false),
  (14, 6, [], 5, false),
  (14, 6, [], 1, false),
  (14, 6, [], 3, false),
  (14, 1, [], 3, false),
  (14, 1, [], 2, false),
  (14, 3, [], 2, false),
  (14, 3, [], 2, false),
  (14, 3, [], 1, false),
  (14, 3, [], 2, false),
  (14, 1, [], 5, false),
  (14, 5, [], 5, false),
  (14, 2, [], 4, false),
  (14, 1, [], 7, false),
  (14, 4, [], 2, false),
  (14, 1, [], 2, false),
  (14, 1, [], 3, false),
  (14, 1, [], 5, false),
  (14, 1, [], 2, false),
  (14, 1, [], 3, false),
  (14, 1, [], 6, false),
  (14, 6, [], 7, false),
  (14, 6, [], 3, false),
  (14, 7, [], 2, false),
  (14, 6, [], 5, false),
  (14, 1, [], 4, false),
  (14, 1, [], 2, false),
  (14, 1, [], 2, false)]
def k_L_law : List (List (Nat × Nat × Int)) := [[(0, 69, 0), (3, 22, 0), (4, 201, 0), (7, 9, 1), (8, 69, 1), (11, 22, 0), (12, 201, 1), (15, 9, 2), (16, 15, 1), (17, 66, 0), (19, 9, 3), (20, 15, 1), (21, 67, 0), (23, 10, 4), (25, 15, 0), (26, 8, 5), (28, 1, 5), (30, 4, 0), (31, 63, 0), (32, 15, 4), (33, 26, 0), (34, 42, 2467), (37, 4, 0), (38, 1, 5), (40, 56, 0), (41, 16, 63), (43, 27, 0), (44, 54, 0)],
  [],
  [],
  [(204, 4, 1), (205, 4, 0), (206, 1, 5), (208, 15, 1), (209, 25, 0), (210, 56, 0), (211, 4, 0), (212, 1, 5), (214, 15, 2), (215, 25, 0), (216, 56, 0), (217, 4, 0), (218, 1, 5), (220, 15, 3), (221, 25, 0), (222, 56, 0), (223, 4, 3), (224, 201, 2), (227, 8, 6), (229, 4, 2), (230, 4, 0), (231, 1, 5), (233, 15, 1), (234, 25, 0), (235, 56, 0), (236, 4, 0), (237, 1, 5), (239, 15, 2), (240, 25, 0), (241, 56, 0), (242, 4, 0), (243, 1, 5), (245, 15, 3), (246, 25, 0), (247, 56, 0), (248, 201, 3), (251, 8, 7), (253, 4, 2), (254, 201, 4)],
  [(257, 1, 6), (259, 38, 5), (264, 1, 6), (266, 33, 15), (269, 4, 3), (270, 15, 0), (271, 57, 0), (272, 1, 7), (274, 30, 0), (275, 44, 5), (281, 53, 2214), (284, 4, 1), (285, 4, 0), (286, 1, 5), (288, 15, 1), (289, 25, 0), (290, 56, 0), (291, 4, 3), (292, 201, 5), (295, 8, 6), (297, 4, 2), (298, 4, 0), (299, 1, 5), (301, 15, 1), (302, 25, 0), (303, 56, 0), (304, 201, 6), (307, 8, 7), (309, 4, 2), (310, 201, 4), (313, 1, 6), (315, 38, 5)],
  [(320, 1, 6), (322, 33, 15), (337, 53, 2158), (340, 4, 1), (341, 4, 0), (342, 1, 5), (344, 15, 1), (345, 25, 0), (346, 56, 0), (347, 4, 0), (348, 1, 5), (350, 15, 2), (351, 25, 0), (352, 56, 0), (353, 4, 3), (354, 201, 7), (357, 8, 6), (359, 4, 2), (360, 4, 0), (361, 1, 5), (363, 15, 1), (364, 25, 0), (365, 56, 0), (366, 4, 0), (367, 1, 5), (369, 15, 2), (370, 25, 0), (371, 56, 0), (372, 201, 8), (375, 8, 7), (377, 4, 2), (378, 201, 4), (381, 1, 6), (383, 38, 5)],
  [(388, 1, 6), (390, 33, 22), (393, 4, 3), (394, 15, 0), (395, 57, 0), (396, 1, 7), (398, 32, 7), (401, 18, 1), (402, 53, 4), (405, 18, 0), (406, 44, 5), (412, 53, 2083), (415, 4, 1), (416, 4, 0), (417, 1, 5), (419, 15, 1), (420, 25, 0), (421, 56, 0), (422, 4, 3), (423, 201, 9), (426, 8, 6), (428, 4, 2), (429, 4, 0), (430, 1, 5), (432, 15, 1), (433, 25, 0), (434, 56, 0), (435, 201, 10), (438, 8, 7), (440, 4, 2), (441, 201, 4), (444, 1, 6), (446, 38, 5)],
  [(451, 1, 6), (453, 33, 15), (456, 4, 3), (457, 15, 0), (458, 57, 0), (459, 1, 7), (461, 30, 0), (462, 44, 5), (468, 53, 2027), (471, 4, 1), (472, 4, 0), (473, 1, 5), (475, 15, 1), (476, 25, 0), (477, 56, 0), (478, 4, 0), (479, 1, 5), (481, 15, 2), (482, 25, 0), (483, 56, 0), (484, 4, 0), (485, 1, 5), (487, 15, 3), (488, 25, 0), (489, 56, 0), (490, 4, 3), (491, 201, 11), (494, 8, 6), (496, 4, 2), (497, 4, 0), (498, 1, 5), (500, 15, 1), (501, 25, 0), (502, 56, 0), (503, 4, 0), (504, 1, 5), (506, 15, 2), (507, 25, 0), (508, 56, 0), (509, 4, 0), (510, 1, 5)],
  [(512, 15, 3), (513, 25, 0), (514, 56, 0), (515, 201, 12), (518, 8, 7), (520, 4, 2), (521, 201, 4), (524, 1, 6), (526, 38, 5), (531, 1, 6), (533, 33, 15), (548, 53, 1947), (551, 4, 1), (552, 4, 0), (553, 1, 5), (555, 15, 1), (556, 25, 0), (557, 56, 0), (558, 4, 0), (559, 1, 5), (561, 15, 2), (562, 25, 0), (563, 56, 0), (564, 4, 3), (565, 201, 13), (568, 8, 6), (570, 4, 2), (571, 4, 0), (572, 1, 5), (574, 15, 1), (575, 25, 0)],
  [(576, 56, 0), (577, 4, 0), (578, 1, 5), (580, 15, 2), (581, 25, 0), (582, 56, 0), (583, 201, 14), (586, 8, 7), (588, 4, 2), (589, 201, 4), (592, 1, 6), (594, 38, 5), (599, 1, 6), (601, 33, 15), (616, 53, 1879), (619, 4, 1), (620, 4, 0), (621, 1, 5), (623, 15, 1), (624, 25, 0), (625, 56, 0), (626, 4, 3), (627, 201, 15), (630, 8, 6), (632, 4, 2), (633, 4, 0), (634, 1, 5), (636, 15, 1), (637, 25, 0), (638, 56, 0), (639, 201, 16)],
  [(642, 8, 7), (644, 4, 2), (645, 201, 4), (648, 1, 6), (650, 38, 5), (655, 1, 6), (657, 33, 15), (672, 53, 1823), (675, 4, 1), (676, 4, 0), (677, 1, 5), (679, 15, 1), (680, 25, 0), (681, 56, 0), (682, 4, 0), (683, 1, 5), (685, 15, 2), (686, 25, 0), (687, 56, 0), (688, 4, 0), (689, 1, 5), (691, 15, 3), (692, 25, 0), (693, 56, 0), (694, 32, 7), (697, 15, 1), (698, 53, 4), (701, 15, 0), (702, 4, 3), (703, 201, 17)],
  [(706, 8, 6), (708, 4, 2), (709, 4, 0), (710, 1, 5), (712, 15, 1), (713, 25, 0), (714, 56, 0), (715, 4, 0), (716, 1, 5), (718, 15, 2), (719, 25, 0), (720, 56, 0), (721, 4, 0), (722, 1, 5), (724, 15, 3), (725, 25, 0), (726, 56, 0), (727, 32, 7), (730, 15, 1), (731, 53, 4), (734, 15, 0), (735, 201, 18), (738, 8, 7), (740, 4, 2), (741, 201, 4), (744, 1, 6), (746, 38, 5), (751, 1, 6), (753, 33, 22)],
  [(775, 53, 1720), (778, 4, 1), (779, 4, 0), (780, 1, 5), (782, 15, 1), (783, 25, 0), (784, 56, 0), (785, 4, 3), (786, 201, 19), (789, 8, 6), (791, 4, 2), (792, 4, 0), (793, 1, 5), (795, 15, 1), (796, 25, 0), (797, 56, 0), (798, 201, 20), (801, 8, 7), (803, 4, 2), (804, 201, 4), (807, 1, 6), (809, 38, 5), (814, 1, 6), (816, 33, 15), (831, 53, 1664)],
  [(834, 4, 1), (835, 4, 0), (836, 1, 5), (838, 15, 1), (839, 25, 0), (840, 56, 0), (841, 4, 0), (842, 1, 5), (844, 15, 2), (845, 25, 0), (846, 56, 0), (847, 4, 3), (848, 201, 21), (851, 8, 6), (853, 4, 2), (854, 4, 0), (855, 1, 5), (857, 15, 1), (858, 25, 0), (859, 56, 0), (860, 4, 0), (861, 1, 5), (863, 15, 2), (864, 25, 0), (865, 56, 0), (866, 201, 22), (869, 8, 7), (871, 4, 2), (872, 201, 4), (875, 1, 6), (877, 38, 5), (882, 1, 6), (884, 33, 15)],
  [(899, 53, 1596), (902, 4, 1), (903, 4, 0), (904, 1, 5), (906, 15, 1), (907, 25, 0), (908, 56, 0), (909, 4, 0), (910, 1, 5), (912, 15, 2), (913, 25, 0), (914, 56, 0), (915, 31, 0), (916, 4, 3), (917, 201, 23), (920, 8, 6), (922, 4, 2), (923, 4, 0), (924, 1, 5), (926, 15, 1), (927, 25, 0), (928, 56, 0), (929, 4, 0), (930, 1, 5), (932, 15, 2), (933, 25, 0), (934, 56, 0), (935, 31, 0), (936, 201, 24), (939, 8, 7), (941, 4, 2), (942, 201, 4), (945, 1, 6), (947, 38, 5), (952, 1, 6), (954, 33, 15)],
  [(969, 53, 1526), (972, 4, 1), (973, 4, 0), (974, 1, 5), (976, 15, 1), (977, 25, 0), (978, 56, 0), (979, 4, 3), (980, 201, 25), (983, 8, 6), (985, 4, 2), (986, 4, 0), (987, 1, 5), (989, 15, 1), (990, 25, 0), (991, 56, 0), (992, 201, 26), (995, 8, 7), (997, 4, 2), (998, 201, 4), (1001, 1, 6), (1003, 38, 5), (1008, 1, 6), (1010, 33, 15)],
  [(1025, 53, 1470), (1028, 4, 1), (1029, 4, 0), (1030, 1, 5), (1032, 15, 1), (1033, 25, 0), (1034, 56, 0), (1035, 4, 0), (1036, 1, 5), (1038, 15, 2), (1039, 25, 0), (1040, 56, 0), (1041, 32, 7), (1044, 15, 1), (1045, 53, 4), (1048, 15, 0), (1049, 4, 0), (1050, 1, 5), (1052, 15, 3), (1053, 25, 0), (1054, 56, 0), (1055, 4, 3), (1056, 201, 27), (1059, 8, 6), (1061, 4, 2), (1062, 4, 0), (1063, 1, 5), (1065, 15, 1), (1066, 25, 0), (1067, 56, 0), (1068, 4, 0), (1069, 1, 5), (1071, 15, 2), (1072, 25, 0), (1073, 56, 0), (1074, 32, 7), (1077, 15, 1), (1078, 53, 4), (1081, 15, 0), (1082, 4, 0), (1083, 1, 5), (1085, 15, 3), (1086, 25, 0), (1087, 56, 0)],
  [(1088, 201, 28), (1091, 8, 7), (1093, 4, 2), (1094, 201, 4), (1097, 1, 6), (1099, 38, 5), (1104, 1, 6), (1106, 33, 15), (1121, 53, 1374), (1124, 4, 1), (1125, 4, 0), (1126, 1, 5), (1128, 15, 1), (1129, 25, 0), (1130, 56, 0), (1131, 4, 3), (1132, 201, 29), (1135, 8, 6), (1137, 4, 2), (1138, 4, 0), (1139, 1, 5), (1141, 15, 1), (1142, 25, 0), (1143, 56, 0), (1144, 201, 30), (1147, 8, 7), (1149, 4, 2), (1150, 201, 4)],
  [(1153, 1, 6), (1155, 38, 5), (1160, 1, 6), (1162, 33, 15), (1177, 53, 1318), (1180, 4, 1), (1181, 4, 0), (1182, 1, 5), (1184, 15, 1), (1185, 25, 0), (1186, 56, 0), (1187, 4, 3), (1188, 201, 31), (1191, 8, 6), (1193, 4, 2), (1194, 4, 0), (1195, 1, 5), (1197, 15, 1), (1198, 25, 0), (1199, 56, 0), (1200, 201, 32), (1203, 8, 7), (1205, 4, 2), (1206, 201, 4), (1209, 1, 6), (1211, 38, 5)],
  [(1216, 1, 6), (1218, 33, 15), (1233, 53, 1262), (1236, 4, 1), (1237, 4, 0), (1238, 1, 5), (1240, 15, 1), (1241, 25, 0), (1242, 56, 0), (1243, 4, 0), (1244, 1, 5), (1246, 15, 2), (1247, 25, 0), (1248, 56, 0), (1249, 32, 7), (1252, 15, 1), (1253, 53, 4), (1256, 15, 0), (1257, 4, 3), (1258, 201, 33), (1261, 8, 6), (1263, 4, 2), (1264, 4, 0), (1265, 1, 5), (1267, 15, 1), (1268, 25, 0), (1269, 56, 0), (1270, 4, 0), (1271, 1, 5), (1273, 15, 2), (1274, 25, 0), (1275, 56, 0), (1276, 32, 7), (1279, 15, 1)],
  [(1280, 53, 4), (1283, 15, 0), (1284, 201, 34), (1287, 8, 7), (1289, 4, 2), (1290, 201, 4), (1293, 1, 6), (1295, 38, 5), (1300, 1, 6), (1302, 33, 15), (1317, 53, 1178), (1320, 4, 1), (1321, 4, 0), (1322, 1, 5), (1324, 15, 1), (1325, 25, 0), (1326, 56, 0), (1327, 4, 0), (1328, 1, 5), (1330, 15, 2), (1331, 25, 0), (1332, 56, 0), (1333, 4, 3), (1334, 201, 35), (1337, 8, 6), (1339, 4, 2), (1340, 4, 0), (1341, 1, 5), (1343, 15, 1)],
  [(1344, 25, 0), (1345, 56, 0), (1346, 4, 0), (1347, 1, 5), (1349, 15, 2), (1350, 25, 0), (1351, 56, 0), (1352, 201, 36), (1355, 8, 7), (1357, 4, 2), (1358, 201, 4), (1361, 1, 6), (1363, 38, 5), (1368, 1, 6), (1370, 33, 15), (1385, 53, 1110), (1388, 4, 1), (1389, 4, 3), (1390, 201, 37), (1393, 8, 6), (1395, 4, 2), (1396, 201, 38), (1399, 8, 7), (1401, 4, 2), (1402, 201, 4), (1405, 1, 6), (1407, 38, 5)],
  [(1412, 1, 6), (1414, 33, 15), (1429, 53, 1066), (1432, 4, 1), (1433, 4, 0), (1434, 1, 5), (1436, 15, 1), (1437, 25, 0), (1438, 56, 0), (1439, 32, 7), (1442, 15, 1), (1443, 53, 4), (1446, 15, 0), (1447, 4, 3), (1448, 201, 39), (1451, 8, 6), (1453, 4, 2), (1454, 4, 0), (1455, 1, 5), (1457, 15, 1), (1458, 25, 0), (1459, 56, 0), (1460, 32, 7), (1463, 15, 1), (1464, 53, 4), (1467, 15, 0), (1468, 201, 40), (1471, 8, 7)],
  [(1473, 4, 2), (1474, 201, 4), (1477, 1, 6), (1479, 38, 5), (1484, 1, 6), (1486, 33, 15), (1501, 53, 994), (1504, 4, 1), (1505, 4, 0), (1506, 1, 5), (1508, 15, 1), (1509, 25, 0), (1510, 56, 0), (1511, 4, 0), (1512, 1, 5), (1514, 15, 2), (1515, 25, 0), (1516, 56, 0), (1517, 32, 7), (1520, 15, 1), (1521, 53, 4), (1524, 15, 0), (1525, 4, 3), (1526, 201, 41), (1529, 8, 6), (1531, 4, 2), (1532, 4, 0), (1533, 1, 5), (1535, 15, 1)],
  [(1536, 25, 0), (1537, 56, 0), (1538, 4, 0), (1539, 1, 5), (1541, 15, 2), (1542, 25, 0), (1543, 56, 0), (1544, 32, 7), (1547, 15, 1), (1548, 53, 4), (1551, 15, 0), (1552, 201, 42), (1555, 8, 7), (1557, 4, 2), (1558, 201, 4), (1561, 1, 6), (1563, 38, 5), (1568, 1, 6), (1570, 33, 22), (1592, 53, 903), (1595, 4, 1), (1596, 4, 3), (1597, 201, 43)],
  [(1600, 8, 6), (1602, 4, 2), (1603, 201, 44), (1606, 8, 7), (1608, 4, 2), (1609, 201, 4), (1612, 1, 6), (1614, 38, 5), (1619, 1, 6), (1621, 33, 15), (1624, 4, 3), (1625, 15, 0), (1626, 57, 0), (1627, 1, 7), (1629, 30, 0), (1630, 44, 5), (1636, 53, 859), (1639, 4, 1), (1640, 4, 0), (1641, 1, 5), (1643, 15, 1), (1644, 25, 0), (1645, 56, 0), (1646, 4, 3), (1647, 201, 45), (1650, 8, 6), (1652, 4, 2), (1653, 4, 0), (1654, 1, 5), (1656, 15, 1), (1657, 25, 0), (1658, 56, 0), (1659, 201, 46), (1662, 8, 7)],
  [(1664, 4, 2), (1665, 201, 4), (1668, 1, 6), (1670, 38, 5), (1675, 1, 6), (1677, 33, 15), (1692, 53, 803), (1695, 4, 1), (1696, 4, 0), (1697, 1, 5), (1699, 15, 1), (1700, 25, 0), (1701, 56, 0), (1702, 4, 3), (1703, 201, 47), (1706, 8, 6), (1708, 4, 2), (1709, 4, 0), (1710, 1, 5), (1712, 15, 1), (1713, 25, 0), (1714, 56, 0), (1715, 201, 48), (1718, 8, 7), (1720, 4, 2), (1721, 201, 4), (1724, 1, 6), (1726, 38, 5)],
  [(1731, 1, 6), (1733, 33, 15), (1748, 53, 747), (1751, 4, 1), (1752, 4, 0), (1753, 1, 5), (1755, 15, 1), (1756, 25, 0), (1757, 56, 0), (1758, 4, 0), (1759, 1, 5), (1761, 15, 2), (1762, 25, 0), (1763, 56, 0), (1764, 32, 7), (1767, 15, 1), (1768, 53, 4), (1771, 15, 0), (1772, 4, 3), (1773, 201, 49), (1776, 8, 6), (1778, 4, 2), (1779, 4, 0), (1780, 1, 5), (1782, 15, 1), (1783, 25, 0), (1784, 56, 0), (1785, 4, 0), (1786, 1, 5), (1788, 15, 2), (1789, 25, 0), (1790, 56, 0), (1791, 32, 7)],
  [(1794, 15, 1), (1795, 53, 4), (1798, 15, 0), (1799, 201, 50), (1802, 8, 7), (1804, 4, 2), (1805, 201, 4), (1808, 1, 6), (1810, 38, 5), (1815, 1, 6), (1817, 33, 22), (1839, 53, 656), (1842, 4, 1), (1843, 4, 0), (1844, 1, 5), (1846, 15, 1), (1847, 25, 0), (1848, 56, 0), (1849, 4, 3), (1850, 201, 51), (1853, 8, 6), (1855, 4, 2)],
  [(1856, 4, 0), (1857, 1, 5), (1859, 15, 1), (1860, 25, 0), (1861, 56, 0), (1862, 201, 52), (1865, 8, 7), (1867, 4, 2), (1868, 201, 4), (1871, 1, 6), (1873, 38, 5), (1878, 1, 6), (1880, 33, 15), (1895, 53, 600), (1898, 4, 1), (1899, 4, 0), (1900, 1, 5), (1902, 15, 1), (1903, 25, 0), (1904, 56, 0), (1905, 4, 0), (1906, 1, 5), (1908, 15, 2), (1909, 25, 0), (1910, 56, 0), (1911, 4, 3), (1912, 201, 53), (1915, 8, 6), (1917, 4, 2), (1918, 4, 0), (1919, 1, 5)],
  [(1921, 15, 1), (1922, 25, 0), (1923, 56, 0), (1924, 4, 0), (1925, 1, 5), (1927, 15, 2), (1928, 25, 0), (1929, 56, 0), (1930, 201, 54), (1933, 8, 7), (1935, 4, 2), (1936, 201, 4), (1939, 1, 6), (1941, 38, 5), (1946, 1, 6), (1948, 33, 15), (1963, 53, 532), (1966, 4, 1), (1967, 4, 0), (1968, 1, 5), (1970, 15, 1), (1971, 25, 0), (1972, 56, 0), (1973, 4, 0), (1974, 1, 5), (1976, 15, 2), (1977, 25, 0), (1978, 56, 0), (1979, 32, 7), (1982, 15, 1), (1983, 53, 4)],
  [(1986, 15, 0), (1987, 4, 3), (1988, 201, 55), (1991, 8, 6), (1993, 4, 2), (1994, 4, 0), (1995, 1, 5), (1997, 15, 1), (1998, 25, 0), (1999, 56, 0), (2000, 4, 0), (2001, 1, 5), (2003, 15, 2), (2004, 25, 0), (2005, 56, 0), (2006, 32, 7), (2009, 15, 1), (2010, 53, 4), (2013, 15, 0), (2014, 201, 56), (2017, 8, 7), (2019, 4, 2), (2020, 201, 4), (2023, 1, 6), (2025, 38, 5), (2030, 1, 6), (2032, 33, 22)],
  [(2054, 53, 441), (2057, 4, 1), (2058, 4, 0), (2059, 1, 5), (2061, 15, 1), (2062, 25, 0), (2063, 56, 0), (2064, 4, 0), (2065, 1, 5), (2067, 15, 2), (2068, 25, 0), (2069, 56, 0), (2070, 4, 3), (2071, 201, 57), (2074, 8, 6), (2076, 4, 2), (2077, 4, 0), (2078, 1, 5), (2080, 15, 1), (2081, 25, 0), (2082, 56, 0), (2083, 4, 0), (2084, 1, 5), (2086, 15, 2), (2087, 25, 0), (2088, 56, 0), (2089, 201, 58), (2092, 8, 7), (2094, 4, 2), (2095, 201, 4), (2098, 1, 6), (2100, 38, 5), (2105, 1, 6), (2107, 33, 15)],
  [(2122, 53, 373), (2125, 4, 1), (2126, 4, 0), (2127, 1, 5), (2129, 15, 1), (2130, 25, 0), (2131, 56, 0), (2132, 4, 3), (2133, 201, 59), (2136, 8, 6), (2138, 4, 2), (2139, 4, 0), (2140, 1, 5), (2142, 15, 1), (2143, 25, 0), (2144, 56, 0), (2145, 201, 60), (2148, 8, 7), (2150, 4, 2), (2151, 201, 4), (2154, 1, 6), (2156, 38, 5), (2161, 1, 6), (2163, 33, 15)],
  [(2178, 53, 317), (2181, 4, 1), (2182, 4, 0), (2183, 1, 5), (2185, 15, 1), (2186, 25, 0), (2187, 56, 0), (2188, 4, 3), (2189, 201, 61), (2192, 8, 6), (2194, 4, 2), (2195, 4, 0), (2196, 1, 5), (2198, 15, 1), (2199, 25, 0), (2200, 56, 0), (2201, 201, 62), (2204, 8, 7), (2206, 4, 2), (2207, 201, 4), (2210, 1, 6), (2212, 38, 5), (2217, 1, 6), (2219, 33, 15), (2234, 53, 261), (2237, 4, 1), (2238, 4, 0), (2239, 1, 5)],
  [(2241, 15, 1), (2242, 25, 0), (2243, 56, 0), (2244, 4, 3), (2245, 201, 63), (2248, 8, 6), (2250, 4, 2), (2251, 4, 0), (2252, 1, 5), (2254, 15, 1), (2255, 25, 0), (2256, 56, 0), (2257, 201, 64), (2260, 8, 7), (2262, 4, 2), (2263, 201, 4), (2266, 1, 6), (2268, 38, 5), (2273, 1, 6), (2275, 33, 15), (2290, 53, 205), (2293, 4, 1), (2294, 4, 3), (2295, 201, 65), (2298, 8, 6), (2300, 4, 2), (2301, 201, 66)],
  [(2304, 8, 7), (2306, 4, 2), (2307, 201, 4), (2310, 1, 6), (2312, 38, 5), (2317, 1, 6), (2319, 33, 15), (2322, 4, 3), (2323, 15, 0), (2324, 57, 0), (2325, 1, 7), (2327, 30, 0), (2328, 44, 5), (2334, 53, 161), (2337, 4, 1), (2338, 201, 67), (2341, 4, 2), (2342, 201, 68), (2345, 44, 149), (2351, 4, 1), (2352, 5, 4), (2354, 201, 69), (2357, 8, 6), (2359, 4, 2), (2360, 201, 70), (2363, 13, 7), (2365, 4, 2), (2366, 201, 4)],
  [(2369, 1, 6), (2371, 38, 5), (2376, 1, 6), (2378, 33, 36), (2414, 53, 81), (2417, 4, 1), (2418, 5, 4), (2420, 201, 71), (2423, 8, 6), (2425, 4, 2), (2426, 201, 72), (2429, 14, 7), (2431, 4, 2)],
  [(2432, 201, 4), (2435, 1, 6), (2437, 38, 5), (2442, 1, 6), (2444, 33, 35), (2479, 53, 16), (2482, 4, 1), (2483, 201, 73), (2486, 4, 2), (2487, 201, 74), (2490, 38, 5), (2495, 29, 5504)],
  [(2498, 53, -2470), (2501, 15, 1), (2502, 200, 0)]]
def k_J7_fill_53178 : List (List (Nat × Nat × Int)) := [[(0, 15, 0), (1, 7, 2), (2, 4, 0), (3, 61, 0), (4, 7, 3), (5, 0, 2), (6, 0, 3), (7, 41, 13), (10, 4, 0), (11, 0, 2), (12, 0, 1), (13, 58, 0), (14, 29, 2501), (17, 53, -12), (20, 200, 0)]]
def k_Jx35411_hasNext_aae02 : List (List (Nat × Nat × Int)) := [[(0, 4, 0), (1, 70, 0), (4, 4, 0), (5, 70, 1), (8, 71, 0), (11, 38, 7), (18, 15, 0), (19, 200, 0)]]
def k_Jx35411_init_45d68 : List (List (Nat × Nat × Int)) := [[(0, 4, 0), (1, 4, 1), (2, 73, 1), (5, 4, 0), (6, 75, 0), (9, 4, 0), (10, 15, -1), (11, 72, 2), (14, 4, 0), (15, 4, 0), (16, 70, 1), (19, 70, 3), (22, 72, 4), (25, 200, 0)]]
def k_Jx4a65c_add_72be8 : List (List (Nat × Nat × Int)) := [[(0, 0, 3), (1, 4, 2), (2, 62, 0), (3, 39, 8), (6, 4, 0), (7, 201, 75), (10, 9, 2), (11, 4, 2), (12, 0, 3), (13, 4, 1), (14, 60, 0), (15, 4, 0), (16, 0, 3), (17, 15, 1), (18, 25, 0), (19, 72, 5), (22, 200, 0)]]
def k_Jx4a65c_add_9ea2d : List (List (Nat × Nat × Int)) := [[(0, 4, 0), (1, 22, 0), (2, 70, 6), (5, 15, 1), (6, 25, 0), (7, 72, 6), (10, 4, 0), (11, 4, 1), (12, 4, 0), (13, 70, 7), (16, 4, 0), (17, 70, 5), (20, 201, 76), (23, 15, 1), (24, 200, 0)]]
def k_Jx4a65c_clear_da8c8 : List (List (Nat × Nat × Int)) := [[(0, 4, 0), (1, 22, 0), (2, 70, 6), (5, 15, 1), (6, 25, 0), (7, 72, 6), (10, 4, 0), (11, 70, 7), (14, 9, 1), (15, 4, 0), (16, 70, 5), (19, 7, 2), (20, 4, 0), (21, 15, 0), (22, 23, 0), (23, 72, 5), (26, 7, 3), (27, 0, 3), (28, 0, 2), (29, 41, 13), (42, 200, 0)]]
def k_Jx4a65c_grow_92f84 : List (List (Nat × Nat × Int)) := [[(0, 4, 0), (1, 70, 7), (4, 62, 0), (5, 7, 2), (6, 0, 2), (7, 36, 13), (10, 4, 0), (11, 70, 7), (14, 74, 0), (17, 50, 28), (45, 4, 0), (46, 16, 10), (48, 0, 1), (49, 76, 0), (52, 68, 0), (55, 23, 0), (56, 72, 7), (59, 200, 0)]]
def k_Jx4a65c_grow_d5877 : List (List (Nat × Nat × Int)) := [[(0, 4, 0), (1, 4, 0), (2, 70, 5), (5, 15, 1), (6, 25, 0), (7, 201, 77), (10, 200, 0)]]
def k_Jx4a65c_init_da8c8 : List (List (Nat × Nat × Int)) := [[(0, 4, 0), (1, 201, 78), (4, 4, 0), (5, 74, 0), (8, 72, 7), (11, 200, 0)]]
def k_Jx4a65c_isEmpty_aae02 : List (List (Nat × Nat × Int)) := [[(0, 4, 0), (1, 70, 5), (4, 33, 7), (7, 15, 1), (8, 53, 4), (12, 200, 0)]]
def k_Jx4a65c_iterator_32c93 : List (List (Nat × Nat × Int)) := [[(0, 69, 2), (3, 22, 0), (4, 4, 0), (5, 201, 79), (8, 200, 0)]]
def k_Jx4a65c_size_8abf5 : List (List (Nat × Nat × Int)) := [[(0, 4, 0), (1, 70, 5), (4, 200, 0)]]
def k_Jxa1e45_init_da8c8 : List (List (Nat × Nat × Int)) := [[(0, 4, 0), (1, 75, 1), (4, 200, 0)]]
def k_Jxc12de_init_da8c8 : List (List (Nat × Nat × Int)) := [[(0, 4, 0), (1, 201, 80), (4, 4, 0), (5, 15, 0), (6, 72, 8), (9, 200, 0)]]
def k_L_abandon : List (List (Nat × Nat × Int)) := [[(0, 4, 2), (1, 15, 0), (2, 4, 0), (3, 0, 1), (4, 201, 81), (12, 9, 3), (13, 15, 1), (14, 200, 0)]]
def k_L_addClub : List (List (Nat × Nat × Int)) := [[(0, 5, 4), (2, 15, 0), (3, 4, 0), (4, 0, 1), (5, 0, 2), (6, 0, 3), (7, 201, 82), (10, 30, 0), (11, 59, 0), (12, 53, 11), (15, 10, 5), (17, 15, 1), (18, 200, 0), (23, 15, 0), (24, 200, 0)]]
def k_L_addPlayer : List (List (Nat × Nat × Int)) := [[(0, 4, 2), (1, 15, 0), (2, 4, 0), (3, 0, 1), (4, 201, 83), (12, 9, 3), (13, 15, 1), (14, 200, 0)]]
def k_L_appeal : List (List (Nat × Nat × Int)) := [[(0, 4, 3), (1, 15, 0), (2, 4, 0), (3, 0, 1), (4, 0, 2), (5, 201, 84), (20, 10, 4), (22, 15, 1), (23, 200, 0)]]
def k_L_ban : List (List (Nat × Nat × Int)) := [[(0, 4, 2), (1, 15, 0), (2, 4, 0), (3, 0, 1), (4, 201, 85), (12, 9, 3), (13, 15, 1), (14, 200, 0)]]
def k_L_callBack : List (List (Nat × Nat × Int)) := [[(0, 4, 2), (1, 15, 0), (2, 4, 0), (3, 0, 1), (4, 201, 86), (12, 9, 3), (13, 15, 1), (14, 200, 0)]]
def k_L_card : List (List (Nat × Nat × Int)) := [[(0, 4, 3), (1, 15, 0), (2, 4, 0), (3, 0, 1), (4, 0, 2), (5, 201, 87), (13, 10, 4), (15, 15, 1), (16, 200, 0)]]
def k_L_change : List (List (Nat × Nat × Int)) := [[(0, 4, 3), (1, 15, 0), (2, 4, 0), (3, 0, 1), (4, 0, 2), (5, 201, 88), (13, 10, 4), (15, 15, 1), (16, 200, 0)]]
def k_L_clubAt : List (List (Nat × Nat × Int)) := [[(0, 4, 3), (1, 15, 0), (2, 4, 0), (3, 0, 1), (4, 0, 2), (5, 201, 89), (13, 10, 4), (15, 15, 1), (16, 200, 0), (17, 10, 4), (19, 15, 2), (20, 200, 0)]]
def k_L_divisionOf : List (List (Nat × Nat × Int)) := [[(0, 4, 2), (1, 15, 0), (2, 4, 0), (3, 0, 1), (4, 201, 90), (12, 9, 3), (13, 15, 1), (14, 200, 0)]]
def k_L_end : List (List (Nat × Nat × Int)) := [[(0, 4, 1), (1, 15, 0), (2, 4, 0), (3, 201, 91), (11, 9, 2), (12, 15, 1), (13, 200, 0)]]
def k_L_endSeason : List (List (Nat × Nat × Int)) := [[(0, 4, 1), (1, 15, 0), (2, 4, 0), (3, 201, 92), (6, 30, 0), (7, 59, 0), (8, 53, 6), (14, 15, 0), (15, 200, 0)]]
def k_L_fixture : List (List (Nat × Nat × Int)) := [[(0, 4, 3), (1, 15, 0), (2, 4, 0), (3, 0, 1), (4, 0, 2), (5, 201, 93), (13, 10, 4), (15, 15, 1), (16, 200, 0)]]
def k_L_goOn : List (List (Nat × Nat × Int)) := [[(0, 4, 2), (1, 15, 0), (2, 4, 0), (3, 0, 1), (4, 201, 94), (7, 30, 0), (8, 59, 0), (9, 53, 9), (12, 9, 3), (13, 15, 1), (14, 200, 0), (18, 15, 0), (19, 200, 0)]]
def k_L_goal : List (List (Nat × Nat × Int)) := [[(0, 4, 2), (1, 15, 0), (2, 4, 0), (3, 0, 1), (4, 201, 95), (12, 9, 3), (13, 15, 1), (14, 200, 0)]]
def k_L_isGuilty : List (List (Nat × Nat × Int)) := [[(0, 4, 3), (1, 15, 0), (2, 4, 0), (3, 0, 1), (4, 0, 2), (5, 201, 96), (20, 10, 4), (22, 15, 1), (23, 200, 0)]]
def k_L_kickOff : List (List (Nat × Nat × Int)) := [[(0, 4, 2), (1, 15, 0), (2, 4, 0), (3, 0, 1), (4, 201, 97), (12, 9, 3), (13, 15, 1), (14, 200, 0)]]
def k_L_lend : List (List (Nat × Nat × Int)) := [[(0, 4, 3), (1, 15, 0), (2, 4, 0), (3, 0, 1), (4, 0, 2), (5, 201, 98), (13, 10, 4), (15, 15, 1), (16, 200, 0)]]
def k_L_meanGoals : List (List (Nat × Nat × Int)) := [[(0, 4, 1), (1, 15, 0), (2, 4, 0), (3, 201, 99), (10, 9, 2), (11, 15, 1), (12, 200, 0)]]
def k_L_name : List (List (Nat × Nat × Int)) := [[(0, 5, 4), (2, 15, 0), (3, 4, 0), (4, 0, 1), (5, 0, 2), (6, 0, 3), (7, 201, 100), (15, 10, 5), (17, 15, 1), (18, 200, 0)]]
def k_L_overShare : List (List (Nat × Nat × Int)) := [[(0, 4, 1), (1, 15, 0), (2, 4, 0), (3, 201, 101), (11, 9, 2), (12, 15, 1), (13, 200, 0)]]
def k_L_plan : List (List (Nat × Nat × Int)) := [[(0, 4, 2), (1, 15, 0), (2, 4, 0), (3, 0, 1), (4, 201, 102), (12, 9, 3), (13, 15, 1), (14, 200, 0), (15, 9, 3), (16, 15, 2), (17, 200, 0)]]
def k_L_points : List (List (Nat × Nat × Int)) := [[(0, 4, 2), (1, 15, 0), (2, 4, 0), (3, 0, 1), (4, 201, 103), (12, 9, 3), (13, 15, 1), (14, 200, 0)]]
def k_L_putOff : List (List (Nat × Nat × Int)) := [[(0, 4, 3), (1, 15, 0), (2, 4, 0), (3, 0, 1), (4, 0, 2), (5, 201, 104), (13, 10, 4), (15, 15, 1), (16, 200, 0)]]
def k_L_registered : List (List (Nat × Nat × Int)) := [[(0, 4, 2), (1, 15, 0), (2, 4, 0), (3, 0, 1), (4, 201, 105), (12, 9, 3), (13, 15, 1), (14, 200, 0)]]
def k_L_resultOf : List (List (Nat × Nat × Int)) := [[(0, 4, 2), (1, 15, 0), (2, 4, 0), (3, 0, 1), (4, 201, 106), (12, 9, 3), (13, 15, 1), (14, 200, 0)]]
def k_L_sell : List (List (Nat × Nat × Int)) := [[(0, 5, 4), (2, 15, 0), (3, 4, 0), (4, 0, 1), (5, 0, 2), (6, 0, 3), (7, 201, 107), (15, 10, 5), (17, 15, 1), (18, 200, 0)]]
def k_L_setDerby : List (List (Nat × Nat × Int)) := [[(0, 5, 4), (2, 15, 0), (3, 4, 0), (4, 0, 1), (5, 0, 2), (6, 0, 3), (7, 201, 108), (22, 10, 5), (24, 15, 1), (25, 200, 0)]]
def k_L_setWindow : List (List (Nat × Nat × Int)) := [[(0, 4, 3), (1, 15, 0), (2, 4, 0), (3, 0, 1), (4, 0, 2), (5, 201, 109), (8, 32, 7), (11, 18, 1), (12, 53, 4), (15, 18, 0), (16, 59, 0), (17, 53, 7), (20, 10, 4), (22, 15, 1), (23, 200, 0), (24, 15, 0), (25, 200, 0)]]
def k_L_stateOf : List (List (Nat × Nat × Int)) := [[(0, 4, 2), (1, 15, 0), (2, 4, 0), (3, 0, 1), (4, 201, 110), (12, 9, 3), (13, 15, 1), (14, 200, 0)]]
def k_L_strike : List (List (Nat × Nat × Int)) := [[(0, 4, 3), (1, 15, 0), (2, 4, 0), (3, 0, 1), (4, 0, 2), (5, 201, 111), (20, 10, 4), (22, 15, 1), (23, 200, 0)]]
def k_L_takePoints : List (List (Nat × Nat × Int)) := [[(0, 4, 3), (1, 15, 0), (2, 4, 0), (3, 0, 1), (4, 0, 2), (5, 201, 112), (13, 10, 4), (15, 15, 1), (16, 200, 0)]]
def k_L_wipe : List (List (Nat × Nat × Int)) := [[(0, 4, 1), (1, 15, 0), (2, 4, 0), (3, 201, 113), (6, 30, 0), (7, 59, 0), (8, 53, 6), (14, 15, 0), (15, 200, 0)]]
def k_L_yellows : List (List (Nat × Nat × Int)) := [[(0, 4, 2), (1, 15, 0), (2, 4, 0), (3, 0, 1), (4, 201, 114), (12, 9, 3), (13, 15, 1), (14, 200, 0)]]
def k_X0_count : List (List (Nat × Nat × Int)) := [[(0, 4, 1), (1, 70, 9), (4, 33, 40), (44, 4, 1), (45, 70, 9), (48, 15, 1), (49, 39, 26)],
  [(75, 4, 1), (76, 70, 9), (79, 15, 2), (80, 39, 11), (83, 4, 0), (84, 70, 10), (87, 15, 0), (88, 201, 115), (91, 200, 0)]]
def k_X0_countAnew : List (List (Nat × Nat × Int)) := [[(0, 4, 0), (1, 70, 11), (4, 15, 0), (5, 201, 115), (8, 4, 0), (9, 70, 10), (12, 15, 0), (13, 201, 115), (16, 15, 0), (17, 7, 1), (18, 0, 1), (19, 4, 0), (20, 70, 12), (23, 201, 116), (26, 41, 33), (59, 15, 0), (60, 7, 1), (61, 0, 1), (62, 4, 0), (63, 70, 12)],
  [(66, 201, 116), (69, 41, 24), (93, 200, 0)]]
def k_X0_init : List (List (Nat × Nat × Int)) := [[(0, 4, 0), (1, 75, 2), (4, 4, 0), (5, 69, 3), (8, 22, 0), (9, 201, 117), (12, 73, 12), (15, 4, 0), (16, 69, 3), (19, 22, 0), (20, 201, 117), (23, 73, 13), (26, 4, 0), (27, 16, 24), (29, 64, 0), (31, 73, 11), (34, 4, 0), (35, 16, 24), (37, 64, 0), (39, 73, 10), (42, 4, 0), (43, 16, 24), (45, 64, 0), (47, 73, 14), (50, 4, 0), (51, 16, 24), (53, 64, 0), (55, 73, 15), (58, 200, 0)]]
def k_X0_isFull : List (List (Nat × Nat × Int)) := [[(0, 4, 0), (1, 70, 12), (4, 201, 116), (7, 15, 2), (8, 25, 0), (9, 17, 1024), (12, 43, 7), (19, 15, 0), (20, 200, 0)]]
def k_X0_isSameAnew : List (List (Nat × Nat × Int)) := [[(0, 4, 0), (1, 70, 11), (4, 15, 0), (5, 4, 0), (6, 70, 14), (9, 15, 0), (10, 16, 24), (12, 77, 0), (15, 4, 0), (16, 70, 10), (19, 15, 0), (20, 4, 0), (21, 70, 15), (24, 15, 0), (25, 16, 24), (27, 77, 0), (30, 4, 0), (31, 201, 118), (34, 15, 0), (35, 7, 1), (36, 0, 1), (37, 16, 24), (39, 41, 41), (42, 4, 0), (43, 70, 11), (46, 0, 1), (47, 55, 0), (48, 4, 0), (49, 70, 14), (52, 0, 1), (53, 55, 0), (54, 39, 18), (57, 4, 0), (58, 70, 10), (61, 0, 1), (62, 55, 0), (63, 4, 0)],
  [(64, 70, 15), (67, 0, 1), (68, 55, 0), (69, 38, 5), (74, 29, 1501), (77, 53, -41), (80, 15, 1), (81, 200, 0)]]
def k_X0_playersWithYellows : List (List (Nat × Nat × Int)) := [[(0, 15, 0), (1, 7, 1), (2, 15, 0), (3, 7, 2), (4, 0, 2), (5, 16, 24), (7, 41, 21), (10, 4, 0), (11, 70, 10), (14, 0, 2), (15, 55, 0), (16, 37, 6), (22, 29, 2501), (25, 53, -21), (28, 0, 1), (29, 200, 0)]]
def k_X0_write : List (List (Nat × Nat × Int)) := [[(0, 4, 0), (1, 70, 12), (4, 4, 1), (5, 201, 119), (8, 24, 0), (9, 4, 0), (10, 4, 1), (11, 201, 120), (14, 200, 0)]]
def k_X11_init : List (List (Nat × Nat × Int)) := [[(0, 4, 0), (1, 75, 3), (4, 4, 0), (5, 17, 1000), (8, 72, 16), (11, 4, 0), (12, 15, 0), (13, 72, 17), (16, 4, 0), (17, 15, 0), (18, 72, 18), (21, 4, 0), (22, 0, 1), (23, 72, 19), (26, 4, 0), (27, 0, 2), (28, 73, 20), (31, 4, 0), (32, 0, 3), (33, 73, 21), (36, 200, 0)]]
def k_X12_init : List (List (Nat × Nat × Int)) := [[(0, 4, 0), (1, 75, 4), (4, 4, 0), (5, 69, 4), (8, 22, 0), (9, 201, 121), (12, 73, 22), (15, 4, 0), (16, 0, 1), (17, 73, 23), (20, 4, 0), (21, 6, 2), (22, 73, 24), (25, 4, 0), (26, 0, 3), (27, 73, 25), (30, 4, 0), (31, 1, 4), (33, 73, 26), (36, 200, 0)]]
def k_X15_abandon : List (List (Nat × Nat × Int)) := [[(0, 4, 0), (1, 4, 0), (2, 70, 27), (5, 51, 7), (12, 15, 0), (13, 15, 1), (14, 201, 122), (17, 32, 5), (20, 15, 0), (21, 200, 0)]]
def k_X15_addClub : List (List (Nat × Nat × Int)) := [[(0, 4, 0), (1, 0, 1), (2, 30, 0), (3, 18, 0), (4, 18, 1), (5, 201, 123), (8, 32, 31), (11, 0, 2), (12, 30, 0), (13, 18, 0), (14, 78, 0), (17, 201, 123), (20, 32, 19), (23, 0, 3), (24, 30, 0), (25, 18, 0), (26, 78, 1), (29, 201, 123), (32, 32, 7), (35, 15, 1), (36, 53, 4), (39, 15, 0), (40, 15, 1), (41, 201, 122), (44, 33, 39), (47, 4, 0), (48, 4, 0), (49, 0, 1), (50, 201, 124), (53, 15, 4), (54, 41, 21), (57, 4, 0), (58, 70, 28), (61, 201, 125)],
  [(66, 16, 8), (68, 41, 7), (71, 15, 1), (72, 53, 4), (76, 15, 2), (77, 201, 122), (80, 32, 5), (83, 15, 0), (84, 200, 0), (85, 4, 0), (86, 70, 28), (89, 69, 5), (92, 22, 0), (93, 0, 1), (94, 0, 2), (95, 0, 3), (96, 201, 126), (99, 201, 127), (104, 24, 0), (105, 4, 0), (106, 70, 28), (109, 201, 125), (114, 15, 1), (115, 26, 0), (116, 200, 0)]]
def k_X15_addPlayer : List (List (Nat × Nat × Int)) := [[(0, 4, 0), (1, 4, 0), (2, 0, 1), (3, 201, 128), (6, 15, 1), (7, 201, 122), (10, 33, 30), (40, 15, 0), (41, 200, 0)]]
def k_X15_appeal : List (List (Nat × Nat × Int)) := [[(0, 4, 0), (1, 0, 1), (2, 30, 0), (3, 18, 0), (4, 4, 0), (5, 70, 29), (8, 201, 125), (13, 15, 1), (14, 26, 0), (15, 30, 0), (16, 201, 123), (19, 15, 1), (20, 201, 122), (23, 32, 5), (26, 15, 0), (27, 200, 0)]]
def k_X15_ban : List (List (Nat × Nat × Int)) := [[(0, 4, 0), (1, 4, 0), (2, 0, 1), (3, 201, 129), (6, 15, 1), (7, 201, 122), (10, 32, 5), (13, 15, 0), (14, 200, 0)]]
def k_X15_callBack : List (List (Nat × Nat × Int)) := [[(0, 4, 0), (1, 4, 0), (2, 0, 1), (3, 201, 129), (6, 15, 1), (7, 201, 122), (10, 33, 42), (52, 15, 0), (53, 200, 0)]]
def k_X15_card : List (List (Nat × Nat × Int)) := [[(0, 4, 0), (1, 0, 1), (2, 201, 130), (5, 33, 16), (21, 15, 0), (22, 200, 0)]]
def k_X15_change : List (List (Nat × Nat × Int)) := [[(0, 4, 0), (1, 4, 0), (2, 0, 1), (3, 201, 129), (6, 32, 15), (21, 15, 0), (22, 15, 1), (23, 201, 122), (26, 33, 23), (49, 15, 0), (50, 200, 0)]]
def k_X15_clubAt : List (List (Nat × Nat × Int)) := [[(0, 4, 0), (1, 0, 1), (2, 30, 0), (3, 18, 0), (4, 18, 1), (5, 201, 123), (8, 15, 1), (9, 201, 122), (12, 33, 25), (15, 4, 0), (16, 0, 2), (17, 30, 0), (18, 18, 0), (19, 4, 0), (20, 0, 1), (21, 201, 124), (24, 15, 1), (25, 26, 0), (26, 30, 0), (27, 201, 123), (30, 15, 2), (31, 201, 122), (34, 32, 5), (37, 15, 0), (38, 200, 0)]]
def k_X15_clubsIn : List (List (Nat × Nat × Int)) := [[(0, 15, 0), (1, 7, 2), (2, 4, 0), (3, 70, 28), (6, 201, 131), (11, 9, 3), (12, 4, 3), (13, 201, 132), (18, 32, 34), (52, 0, 2), (53, 200, 0)]]
def k_X15_counting : List (List (Nat × Nat × Int)) := [[(0, 69, 6), (3, 22, 0), (4, 201, 133), (7, 9, 2), (8, 15, 0), (9, 7, 3), (10, 0, 3), (11, 4, 0), (12, 70, 28), (15, 201, 125), (20, 41, 59)],
  [(79, 4, 2), (80, 200, 0)]]
def k_X15_divisionOf : List (List (Nat × Nat × Int)) := [[(0, 4, 0), (1, 4, 0), (2, 0, 1), (3, 201, 128), (6, 15, 1), (7, 201, 122), (10, 32, 7), (13, 15, 0), (14, 53, 19), (33, 200, 0)]]
def k_X15_end : List (List (Nat × Nat × Int)) := [[(0, 4, 0), (1, 4, 0), (2, 70, 27), (5, 51, 7), (12, 15, 0), (13, 15, 1), (14, 201, 122), (17, 32, 5), (20, 15, 0), (21, 200, 0)]]
def k_X15_endSeason : List (List (Nat × Nat × Int)) := [[(0, 15, 1), (1, 7, 1), (2, 4, 0), (3, 70, 30), (6, 201, 131), (11, 9, 2), (12, 4, 2), (13, 201, 132), (18, 32, 75)],
  [(93, 4, 0), (94, 0, 1), (95, 32, 14), (98, 4, 0), (99, 70, 27), (102, 52, 7), (105, 15, 1), (106, 53, 4), (110, 15, 1), (111, 201, 122), (114, 32, 5), (119, 4, 0), (120, 201, 134), (123, 4, 0), (124, 15, 0), (125, 201, 135)],
  [(128, 9, 2), (129, 4, 0), (130, 15, 1), (131, 201, 135), (134, 9, 3), (135, 15, -1), (136, 8, 4), (138, 4, 3), (139, 201, 131), (144, 10, 5), (146, 5, 5), (148, 201, 132), (153, 32, 72)],
  [(225, 1, 4), (227, 15, -1), (228, 38, 21), (249, 1, 4), (251, 15, -1), (252, 38, 48)],
  [(300, 4, 0), (301, 70, 30), (304, 201, 136), (309, 4, 0), (310, 70, 28), (313, 201, 131), (318, 10, 5)],
  [(320, 5, 5), (322, 201, 132), (327, 32, 30), (357, 4, 0), (358, 70, 31), (361, 69, 7), (364, 22, 0), (365, 16, 119), (367, 21, 0), (368, 15, -1), (369, 15, 1), (370, 201, 137), (373, 201, 127), (378, 24, 0), (379, 1, 4), (381, 200, 0)]]
def k_X15_fixture : List (List (Nat × Nat × Int)) := [[(0, 4, 0), (1, 0, 1), (2, 201, 138), (5, 33, 34), (39, 15, 0), (40, 200, 0)]]
def k_X15_goOn : List (List (Nat × Nat × Int)) := [[(0, 4, 0), (1, 0, 1), (2, 30, 0), (3, 18, 1), (4, 78, 2), (7, 201, 123), (10, 15, 1), (11, 201, 122), (14, 33, 23), (17, 4, 0), (18, 4, 0), (19, 70, 27), (22, 52, 7), (25, 15, 1), (26, 53, 4), (30, 15, 2), (31, 201, 122), (34, 32, 5), (37, 15, 0), (38, 200, 0), (39, 4, 0), (40, 22, 0), (41, 70, 32), (44, 0, 1), (45, 25, 0), (46, 72, 32), (49, 4, 0), (50, 70, 32), (53, 200, 0)]]
def k_X15_goal : List (List (Nat × Nat × Int)) := [[(0, 4, 0), (1, 0, 1), (2, 201, 130), (5, 33, 45), (50, 15, 0), (51, 200, 0)]]
def k_X15_goesThrough : List (List (Nat × Nat × Int)) := [[(0, 15, 0), (1, 7, 1), (2, 0, 1), (3, 16, 24), (5, 41, 23), (8, 4, 0), (9, 70, 33), (12, 0, 1), (13, 15, 0), (14, 58, 0), (15, 4, 0), (16, 70, 34), (19, 0, 1), (20, 15, 0), (21, 58, 0), (22, 29, 1501), (25, 53, -23), (28, 4, 0), (29, 70, 31), (32, 201, 131), (37, 9, 1), (38, 4, 1), (39, 201, 132), (44, 32, 143)],
  [],
  [(187, 200, 0)]]
def k_X15_hasFixtures : List (List (Nat × Nat × Int)) := [[(0, 15, 0), (1, 7, 2), (2, 4, 0), (3, 70, 30), (6, 201, 131), (11, 9, 3), (12, 4, 3), (13, 201, 132), (18, 32, 49)],
  [(67, 0, 2), (68, 200, 0)]]
def k_X15_init : List (List (Nat × Nat × Int)) := [[(0, 4, 0), (1, 75, 5), (4, 4, 0), (5, 69, 6), (8, 22, 0), (9, 201, 133), (12, 73, 28), (15, 4, 0), (16, 69, 6), (19, 22, 0), (20, 201, 133), (23, 73, 35), (26, 4, 0), (27, 69, 6), (30, 22, 0), (31, 201, 133), (34, 73, 30), (37, 4, 0), (38, 69, 6), (41, 22, 0), (42, 201, 133), (45, 73, 29), (48, 4, 0), (49, 69, 6), (52, 22, 0), (53, 201, 133), (56, 73, 31), (59, 4, 0), (60, 16, 64), (62, 65, 0)],
  [(64, 73, 36), (67, 4, 0), (68, 16, 24), (70, 64, 0), (72, 73, 33), (75, 4, 0), (76, 16, 24), (78, 64, 0), (80, 73, 34), (83, 4, 0), (84, 15, 1), (85, 72, 37), (88, 4, 0), (89, 15, 0), (90, 72, 38), (93, 4, 0), (94, 21, 0), (95, 72, 27), (98, 200, 0)]]
def k_X15_isClub : List (List (Nat × Nat × Int)) := [[(0, 0, 1), (1, 30, 0), (2, 18, 0), (3, 4, 0), (4, 70, 28), (7, 201, 125), (12, 15, 1), (13, 26, 0), (14, 30, 0), (15, 201, 123), (18, 200, 0)]]
def k_X15_isGuilty : List (List (Nat × Nat × Int)) := [[(0, 4, 0), (1, 0, 1), (2, 201, 138), (5, 33, 37), (42, 15, 0), (43, 200, 0)]]
def k_X15_isIn : List (List (Nat × Nat × Int)) := [[(0, 2, 0), (1, 2, 2), (2, 46, 14), (6, 2, 0), (7, 3, 4), (9, 48, 7), (13, 15, 1), (14, 53, 4), (17, 15, 0), (18, 200, 0)]]
def k_X15_isOpen : List (List (Nat × Nat × Int)) := [[(0, 4, 0), (1, 70, 32), (4, 30, 0), (5, 4, 0), (6, 70, 37), (9, 30, 0), (10, 4, 0), (11, 70, 38), (14, 30, 0), (15, 201, 123), (18, 200, 0)]]
def k_X15_isPlayer : List (List (Nat × Nat × Int)) := [[(0, 0, 1), (1, 30, 0), (2, 18, 0), (3, 4, 0), (4, 70, 35), (7, 201, 125), (12, 15, 1), (13, 26, 0), (14, 30, 0), (15, 201, 123), (18, 200, 0)]]
def k_X15_isSound : List (List (Nat × Nat × Int)) := [[(0, 15, 1), (1, 200, 0)]]
def k_X15_kickOff : List (List (Nat × Nat × Int)) := [[(0, 4, 0), (1, 0, 1), (2, 201, 138), (5, 32, 5), (8, 15, 0), (9, 200, 0)]]
def k_X15_lend : List (List (Nat × Nat × Int)) := [[(0, 4, 0), (1, 4, 0), (2, 0, 1), (3, 201, 129), (6, 32, 15), (21, 15, 0), (22, 15, 1), (23, 201, 122), (26, 32, 5), (29, 15, 0), (30, 200, 0)]]
def k_X15_meanGoals : List (List (Nat × Nat × Int)) := [[(0, 4, 0), (1, 4, 0), (2, 201, 139), (5, 37, 7), (12, 15, 0), (13, 15, 1), (14, 201, 122), (17, 32, 5), (20, 20, 0), (21, 200, 0)]]
def k_X15_money : List (List (Nat × Nat × Int)) := [[(0, 18, 0), (1, 12, 1), (2, 4, 0), (3, 70, 28), (6, 201, 131), (11, 9, 3), (12, 4, 3), (13, 201, 132), (18, 32, 26), (44, 2, 1), (45, 200, 0)]]
def k_X15_name : List (List (Nat × Nat × Int)) := [[(0, 4, 0), (1, 0, 1), (2, 30, 0), (3, 18, 0), (4, 4, 0), (5, 70, 30), (8, 201, 125), (13, 15, 1), (14, 26, 0), (15, 30, 0), (16, 201, 123), (19, 32, 15), (34, 15, 0), (35, 15, 1), (36, 201, 122), (39, 32, 5), (42, 15, 0), (43, 200, 0)]]
def k_X15_no : List (List (Nat × Nat × Int)) := [[(0, 4, 0), (1, 0, 1), (2, 32, 7), (5, 15, 0), (6, 53, 4), (9, 0, 2), (10, 72, 39), (13, 0, 1), (14, 33, 7), (17, 15, 1), (18, 53, 4), (21, 15, 0), (22, 200, 0)]]
def k_X15_noMatch : List (List (Nat × Nat × Int)) := [[(0, 4, 0), (1, 0, 1), (2, 30, 0), (3, 18, 0), (4, 4, 0), (5, 70, 30), (8, 201, 125), (13, 15, 1), (14, 26, 0), (15, 30, 0), (16, 201, 123), (19, 15, 1), (20, 201, 122), (23, 200, 0)]]
def k_X15_noOn : List (List (Nat × Nat × Int)) := [[(0, 4, 0), (1, 4, 0), (2, 0, 1), (3, 201, 129), (6, 15, 1), (7, 201, 122), (10, 33, 23), (33, 15, 1), (34, 53, 4), (38, 200, 0)]]
def k_X15_over : List (List (Nat × Nat × Int)) := [[(0, 15, 0), (1, 7, 1), (2, 4, 0), (3, 70, 30), (6, 201, 131), (11, 9, 2), (12, 4, 2), (13, 201, 132), (18, 32, 31), (49, 0, 1), (50, 200, 0)]]
def k_X15_overShare : List (List (Nat × Nat × Int)) := [[(0, 4, 0), (1, 4, 0), (2, 70, 30), (5, 201, 140), (10, 33, 7), (17, 15, 0), (18, 15, 1), (19, 201, 122), (22, 32, 7), (25, 19, 0), (26, 53, 19), (45, 200, 0)]]
def k_X15_plan : List (List (Nat × Nat × Int)) := [[(0, 4, 0), (1, 0, 1), (2, 30, 0), (3, 18, 0), (4, 18, 1), (5, 201, 123), (8, 15, 1), (9, 201, 122), (12, 33, 33), (15, 4, 0), (16, 4, 0), (17, 0, 1), (18, 201, 141), (21, 33, 16), (24, 4, 0), (25, 0, 1), (26, 201, 124), (29, 15, 2), (30, 40, 7), (37, 15, 0), (38, 15, 2), (39, 201, 122), (42, 32, 5), (45, 15, 0), (46, 200, 0)]]
def k_X15_points : List (List (Nat × Nat × Int)) := [[(0, 4, 0), (1, 4, 0), (2, 0, 1), (3, 201, 128), (6, 15, 1), (7, 201, 122), (10, 32, 5), (13, 15, 0), (14, 200, 0)]]
def k_X15_putOff : List (List (Nat × Nat × Int)) := [[(0, 4, 0), (1, 0, 1), (2, 201, 138), (5, 32, 5), (8, 15, 0), (9, 200, 0)]]
def k_X15_registered : List (List (Nat × Nat × Int)) := [[(0, 4, 0), (1, 4, 0), (2, 0, 1), (3, 201, 129), (6, 15, 1), (7, 201, 122), (10, 32, 7), (13, 15, 0), (14, 53, 19), (33, 200, 0)]]
def k_X15_resultOf : List (List (Nat × Nat × Int)) := [[(0, 4, 0), (1, 0, 1), (2, 201, 138), (5, 33, 27), (32, 15, 0), (33, 200, 0)]]
def k_X15_sell : List (List (Nat × Nat × Int)) := [[(0, 4, 0), (1, 4, 0), (2, 0, 1), (3, 201, 129), (6, 32, 15), (21, 15, 0), (22, 15, 1), (23, 201, 122), (26, 32, 5), (29, 15, 0), (30, 200, 0)]]
def k_X15_setDerby : List (List (Nat × Nat × Int)) := [[(0, 4, 0), (1, 4, 0), (2, 0, 1), (3, 201, 128), (6, 32, 15), (21, 15, 0), (22, 15, 1), (23, 201, 122), (26, 33, 21), (47, 15, 0), (48, 200, 0)]]
def k_X15_setWindow : List (List (Nat × Nat × Int)) := [[(0, 4, 0), (1, 0, 1), (2, 30, 0), (3, 18, 0), (4, 78, 3), (7, 201, 123), (10, 32, 19), (13, 0, 2), (14, 30, 0), (15, 18, 0), (16, 78, 3), (19, 201, 123), (22, 32, 7), (25, 15, 1), (26, 53, 4), (29, 15, 0), (30, 15, 1), (31, 201, 122), (34, 32, 5), (37, 15, 0), (38, 200, 0), (39, 4, 0), (40, 0, 1), (41, 72, 37), (44, 4, 0), (45, 0, 2), (46, 72, 38), (49, 4, 0), (50, 201, 142), (53, 200, 0)]]
def k_X15_stateOf : List (List (Nat × Nat × Int)) := [[(0, 4, 0), (1, 0, 1), (2, 201, 138), (5, 32, 8), (8, 16, 112), (10, 53, 19), (29, 200, 0)]]
def k_X15_strike : List (List (Nat × Nat × Int)) := [[(0, 4, 0), (1, 4, 0), (2, 0, 1), (3, 201, 128), (6, 15, 1), (7, 201, 122), (10, 33, 23), (33, 15, 0), (34, 200, 0)]]
def k_X15_table : List (List (Nat × Nat × Int)) := [[(0, 4, 0), (1, 0, 1), (2, 201, 143), (5, 9, 2), (6, 69, 6), (9, 22, 0), (10, 201, 133), (13, 9, 3), (14, 4, 2), (15, 201, 140), (20, 33, 170)],
  [],
  [(190, 15, 0), (191, 8, 4)],
  [(193, 1, 4), (195, 4, 0), (196, 70, 28), (199, 201, 125), (204, 41, 62)],
  [(266, 4, 3), (267, 200, 0)]]
def k_X15_takePoints : List (List (Nat × Nat × Int)) := [[(0, 4, 0), (1, 4, 0), (2, 0, 1), (3, 201, 128), (6, 15, 1), (7, 201, 122), (10, 33, 20), (30, 15, 0), (31, 200, 0)]]
def k_X15_thrown : List (List (Nat × Nat × Int)) := [[(0, 4, 0), (1, 70, 39), (4, 200, 0)]]
def k_X15_wipe : List (List (Nat × Nat × Int)) := [[(0, 4, 0), (1, 4, 0), (2, 70, 27), (5, 52, 7), (8, 15, 1), (9, 53, 4), (13, 15, 1), (14, 201, 122), (17, 32, 5), (22, 4, 0), (23, 201, 134), (26, 15, 0), (27, 7, 1), (28, 4, 0), (29, 70, 34), (32, 9, 2), (33, 4, 2), (34, 61, 0), (35, 7, 3), (36, 15, 0), (37, 8, 4), (39, 1, 4), (41, 0, 3), (42, 41, 28), (45, 4, 2), (46, 1, 4), (48, 55, 0), (49, 8, 5), (51, 0, 1), (52, 1, 5), (54, 37, 7), (61, 15, 0), (62, 25, 0), (63, 7, 1)],
  [(64, 29, 4501), (67, 53, -28), (70, 4, 0), (71, 70, 31), (74, 69, 7), (77, 22, 0), (78, 16, 119), (80, 21, 0), (81, 15, -1), (82, 15, 1), (83, 201, 137), (86, 201, 127), (91, 24, 0), (92, 0, 1), (93, 200, 0)]]
def k_X15_yellows : List (List (Nat × Nat × Int)) := [[(0, 4, 0), (1, 4, 0), (2, 0, 1), (3, 201, 129), (6, 15, 1), (7, 201, 122), (10, 32, 5), (13, 15, 0), (14, 200, 0)]]
def k_X2_init : List (List (Nat × Nat × Int)) := [[(0, 4, 0), (1, 75, 6), (4, 4, 0), (5, 0, 1), (6, 73, 40), (9, 4, 0), (10, 0, 2), (11, 72, 41), (14, 4, 0), (15, 0, 3), (16, 73, 42), (19, 4, 0), (20, 1, 4), (22, 73, 43), (25, 4, 0), (26, 17, 1000), (29, 72, 44), (32, 200, 0)]]
def k_X3_init : List (List (Nat × Nat × Int)) := [[(0, 4, 0), (1, 75, 7), (4, 4, 0), (5, 0, 1), (6, 73, 45), (9, 4, 0), (10, 6, 2), (11, 73, 46), (14, 4, 0), (15, 0, 3), (16, 73, 47), (19, 4, 0), (20, 1, 4), (22, 73, 48), (25, 200, 0)]]
def k_X5_init : List (List (Nat × Nat × Int)) := [[(0, 4, 0), (1, 75, 8), (4, 4, 0), (5, 69, 8), (8, 22, 0), (9, 201, 144), (12, 73, 49), (15, 4, 0), (16, 69, 8), (19, 22, 0), (20, 201, 144), (23, 73, 50), (26, 4, 0), (27, 16, 12), (29, 64, 0), (31, 73, 51), (34, 4, 0), (35, 16, 6), (37, 64, 0), (39, 73, 52), (42, 4, 0), (43, 16, 6), (45, 64, 0), (47, 73, 53), (50, 4, 0), (51, 16, 6), (53, 65, 0), (55, 73, 54), (58, 200, 0)]]
def k_X8_addRows : List (List (Nat × Nat × Int)) := [[(0, 15, 0), (1, 8, 4), (3, 1, 4), (5, 4, 2), (6, 201, 145), (9, 41, 48), (57, 200, 0)]]
def k_X8_countAmong : List (List (Nat × Nat × Int)) := [[(0, 0, 1), (1, 8, 4), (3, 1, 4), (5, 0, 2), (6, 41, 40), (46, 15, 0), (47, 8, 4), (49, 1, 4), (51, 4, 3), (52, 201, 145), (55, 41, 116)],
  [],
  [(171, 0, 1), (172, 8, 4), (174, 1, 4), (176, 0, 2), (177, 41, 25)],
  [(202, 200, 0)]]
def k_X8_draw : List (List (Nat × Nat × Int)) := [[(0, 4, 0), (1, 70, 55), (4, 201, 146), (7, 15, 0), (8, 8, 4), (10, 1, 4), (12, 4, 2), (13, 201, 145), (16, 41, 22), (38, 4, 0), (39, 0, 1), (40, 4, 2), (41, 15, 0), (42, 201, 147), (45, 4, 0), (46, 70, 55), (49, 201, 145), (52, 8, 4), (54, 4, 0), (55, 15, 0), (56, 1, 4), (58, 4, 3), (59, 201, 148), (62, 15, 0), (63, 8, 5)],
  [(65, 1, 5), (67, 1, 4), (69, 41, 69)],
  [(138, 4, 0), (139, 15, 0), (140, 1, 4), (142, 201, 149), (145, 4, 0), (146, 15, 0), (147, 1, 4), (149, 4, 3), (150, 15, 0), (151, 201, 150), (154, 4, 0), (155, 0, 1), (156, 4, 2), (157, 15, 1), (158, 201, 147), (161, 200, 0)]]
def k_X8_firstToRise : List (List (Nat × Nat × Int)) := [[(0, 15, 0), (1, 7, 1), (2, 0, 1), (3, 4, 0), (4, 70, 55), (7, 201, 145), (10, 41, 38), (48, 21, 0), (49, 200, 0)]]
def k_X8_init : List (List (Nat × Nat × Int)) := [[(0, 4, 0), (1, 75, 9), (4, 4, 0), (5, 69, 9), (8, 22, 0), (9, 201, 151), (12, 73, 55), (15, 200, 0)]]
def k_X8_partTies : List (List (Nat × Nat × Int)) := [[(0, 0, 1), (1, 8, 5), (3, 0, 1), (4, 15, 1), (5, 25, 0), (6, 8, 6), (8, 1, 6), (10, 0, 2), (11, 42, 72)],
  [(83, 200, 0)]]
def k_X8_sort : List (List (Nat × Nat × Int)) := [[(0, 0, 1), (1, 15, 1), (2, 25, 0), (3, 7, 3), (4, 0, 3), (5, 0, 2), (6, 41, 98)],
  [(104, 200, 0)]]
def k_X9_abandon : List (List (Nat × Nat × Int)) := [[(0, 4, 0), (1, 201, 152)]]
def k_X9_addClub : List (List (Nat × Nat × Int)) := [[(0, 0, 1), (1, 201, 153), (4, 32, 22), (7, 0, 2), (8, 15, 0), (9, 16, 7), (11, 201, 154), (14, 32, 12), (17, 0, 3), (18, 15, 0), (19, 15, 3), (20, 201, 154), (23, 33, 13), (26, 202, 0), (36, 4, 0), (37, 0, 1), (38, 201, 155), (41, 15, 4), (42, 40, 13), (55, 69, 10), (58, 22, 0), (59, 4, 0), (60, 70, 56), (63, 201, 156)],
  [(66, 0, 1), (67, 0, 2), (68, 0, 3), (69, 201, 157), (72, 10, 4), (74, 4, 0), (75, 70, 56), (78, 5, 4), (80, 201, 158), (83, 24, 0), (84, 5, 4), (86, 70, 57), (89, 200, 0)]]
def k_X9_addPlayer : List (List (Nat × Nat × Int)) := [[(0, 4, 0), (1, 0, 1), (2, 201, 159)]]
def k_X9_appeal : List (List (Nat × Nat × Int)) := [[(0, 0, 1), (1, 34, 17), (4, 0, 1), (5, 4, 0), (6, 70, 58), (9, 70, 59), (12, 201, 156), (15, 40, 14), (18, 202, 1)]]
def k_X9_ban : List (List (Nat × Nat × Int)) := [[(0, 4, 0), (1, 0, 1), (2, 201, 160)]]
def k_X9_callBack : List (List (Nat × Nat × Int)) := [[(0, 4, 0), (1, 0, 1), (2, 201, 160)]]
def k_X9_card : List (List (Nat × Nat × Int)) := [[(0, 4, 0), (1, 0, 1), (2, 201, 161)]]
def k_X9_change : List (List (Nat × Nat × Int)) := [[(0, 4, 0), (1, 0, 1), (2, 201, 161)]]
def k_X9_clearSeason : List (List (Nat × Nat × Int)) := [[(0, 4, 0), (1, 70, 60), (4, 201, 162), (7, 4, 0), (8, 21, 0), (9, 72, 61), (12, 15, 0), (13, 7, 1), (14, 0, 1), (15, 4, 0), (16, 70, 56), (19, 201, 156), (22, 41, 31), (53, 4, 0), (54, 70, 58), (57, 69, 11), (60, 22, 0), (61, 15, 2), (62, 21, 0), (63, 15, 0)],
  [(64, 15, 0), (65, 201, 163), (68, 201, 164), (71, 200, 0)]]
def k_X9_clubAt : List (List (Nat × Nat × Int)) := [[(0, 0, 1), (1, 201, 153), (4, 33, 13), (7, 202, 2), (17, 0, 2), (18, 34, 12), (21, 0, 2), (22, 4, 0), (23, 0, 1), (24, 201, 155), (27, 40, 14), (30, 202, 3)]]
def k_X9_clubsIn : List (List (Nat × Nat × Int)) := [[(0, 15, 0), (1, 7, 2), (2, 15, 0), (3, 7, 3), (4, 0, 3), (5, 4, 0), (6, 70, 56), (9, 201, 156), (12, 41, 30), (42, 0, 2), (43, 200, 0)]]
def k_X9_divisionOf : List (List (Nat × Nat × Int)) := [[(0, 4, 0), (1, 0, 1), (2, 201, 159)]]
def k_X9_end : List (List (Nat × Nat × Int)) := [[(0, 4, 0), (1, 201, 152)]]
def k_X9_endSeason : List (List (Nat × Nat × Int)) := [[(0, 4, 0), (1, 201, 165), (4, 33, 13), (7, 4, 0), (8, 70, 58), (11, 201, 166), (14, 32, 14), (28, 4, 0), (29, 70, 62), (32, 15, 1), (33, 4, 0), (34, 70, 56), (37, 4, 0), (38, 70, 60), (41, 201, 167), (44, 4, 0), (45, 70, 62), (48, 201, 168), (51, 11, 1), (52, 4, 0), (53, 70, 62), (56, 15, 0), (57, 4, 0), (58, 70, 56), (61, 4, 0), (62, 70, 60)],
  [(65, 201, 167), (68, 6, 1), (69, 52, 7), (72, 21, 0), (73, 53, 10), (83, 11, 2), (84, 6, 1), (85, 51, 8), (93, 6, 2), (94, 51, 8), (102, 4, 0), (103, 201, 169), (106, 6, 1), (107, 52, 7), (110, 15, -1), (111, 53, 7), (118, 200, 0)]]
def k_X9_fixture : List (List (Nat × Nat × Int)) := [[(0, 4, 0), (1, 0, 1), (2, 201, 170)]]
def k_X9_fixturesOver : List (List (Nat × Nat × Int)) := [[(0, 15, 0), (1, 7, 1), (2, 15, 0), (3, 7, 2), (4, 0, 2), (5, 4, 0), (6, 70, 60), (9, 201, 156), (12, 41, 29), (41, 0, 1), (42, 200, 0)]]
def k_X9_goOn : List (List (Nat × Nat × Int)) := [[(0, 0, 1), (1, 15, 1), (2, 16, 99), (4, 201, 154), (7, 33, 13), (10, 202, 4), (20, 4, 0), (21, 70, 61), (24, 51, 13), (37, 4, 0), (38, 22, 0), (39, 70, 63), (42, 0, 1), (43, 25, 0), (44, 72, 63), (47, 4, 0), (48, 70, 63), (51, 200, 0)]]
def k_X9_goal : List (List (Nat × Nat × Int)) := [[(0, 4, 0), (1, 0, 1), (2, 201, 161)]]
def k_X9_hasFixtures : List (List (Nat × Nat × Int)) := [[(0, 15, 0), (1, 7, 2), (2, 0, 2), (3, 4, 0), (4, 70, 60), (7, 201, 156), (10, 41, 35), (45, 15, 0), (46, 200, 0)]]
def k_X9_init : List (List (Nat × Nat × Int)) := [[(0, 4, 0), (1, 75, 10), (4, 4, 0), (5, 69, 12), (8, 22, 0), (9, 201, 171), (12, 73, 56), (15, 4, 0), (16, 69, 12), (19, 22, 0), (20, 201, 171), (23, 73, 64), (26, 4, 0), (27, 69, 12), (30, 22, 0), (31, 201, 171), (34, 73, 60), (37, 4, 0), (38, 69, 13), (41, 22, 0), (42, 201, 172), (45, 73, 58), (48, 4, 0), (49, 69, 14), (52, 22, 0), (53, 201, 173), (56, 73, 65), (59, 4, 0), (60, 69, 15), (63, 22, 0)],
  [(64, 201, 174), (67, 73, 62), (70, 4, 0), (71, 15, 0), (72, 72, 63), (75, 4, 0), (76, 15, 1), (77, 72, 66), (80, 4, 0), (81, 15, 0), (82, 72, 67), (85, 4, 0), (86, 21, 0), (87, 72, 61), (90, 200, 0)]]
def k_X9_isDivision : List (List (Nat × Nat × Int)) := [[(0, 0, 0), (1, 15, 0), (2, 15, 1), (3, 201, 154), (6, 200, 0)]]
def k_X9_isFixtureLeft : List (List (Nat × Nat × Int)) := [[(0, 15, 0), (1, 7, 1), (2, 0, 1), (3, 4, 0), (4, 70, 60), (7, 201, 156), (10, 41, 37), (47, 15, 0), (48, 200, 0)]]
def k_X9_isGuilty : List (List (Nat × Nat × Int)) := [[(0, 4, 0), (1, 0, 1), (2, 201, 170)]]
def k_X9_isSound : List (List (Nat × Nat × Int)) := [[(0, 15, 0), (1, 7, 1), (2, 0, 1), (3, 4, 0), (4, 70, 60), (7, 201, 156), (10, 41, 23), (33, 4, 0), (34, 70, 58), (37, 201, 175), (40, 7, 1), (41, 15, 1), (42, 7, 2), (43, 15, 0), (44, 7, 3), (45, 0, 3), (46, 4, 0), (47, 70, 60), (50, 201, 156), (53, 41, 36)],
  [(89, 78, 4), (92, 4, 0), (93, 70, 56), (96, 201, 156), (99, 30, 0), (100, 28, 0), (101, 12, 3), (102, 0, 1), (103, 32, 20), (106, 0, 2), (107, 32, 16), (110, 4, 0), (111, 201, 176), (114, 2, 3), (115, 45, 7), (119, 15, 1), (120, 53, 4), (124, 200, 0)]]
def k_X9_isWindowOpen : List (List (Nat × Nat × Int)) := [[(0, 4, 0), (1, 70, 63), (4, 4, 0), (5, 70, 66), (8, 4, 0), (9, 70, 67), (12, 201, 154), (15, 200, 0)]]
def k_X9_isWithin : List (List (Nat × Nat × Int)) := [[(0, 0, 0), (1, 0, 1), (2, 40, 12), (5, 0, 0), (6, 0, 2), (7, 42, 7), (10, 15, 1), (11, 53, 4), (14, 15, 0), (15, 200, 0)]]
def k_X9_kickOff : List (List (Nat × Nat × Int)) := [[(0, 4, 0), (1, 0, 1), (2, 201, 170)]]
def k_X9_knownBit : List (List (Nat × Nat × Int)) := [[(0, 4, 0), (1, 0, 1), (2, 201, 160)]]
def k_X9_knownClub : List (List (Nat × Nat × Int)) := [[(0, 0, 1), (1, 34, 14), (4, 0, 1), (5, 4, 0), (6, 70, 56), (9, 201, 156), (12, 40, 14), (15, 202, 5)]]
def k_X9_knownFixture : List (List (Nat × Nat × Int)) := [[(0, 0, 1), (1, 34, 14), (4, 0, 1), (5, 4, 0), (6, 70, 60), (9, 201, 156), (12, 40, 14), (15, 202, 6)]]
def k_X9_knownMatch : List (List (Nat × Nat × Int)) := [[(0, 4, 0), (1, 70, 61), (4, 52, 14), (7, 202, 7)]]
def k_X9_knownPlayer : List (List (Nat × Nat × Int)) := [[(0, 0, 1), (1, 34, 20), (4, 0, 1), (5, 4, 0), (6, 70, 64), (9, 201, 156), (12, 41, 9), (21, 202, 8)]]
def k_X9_lend : List (List (Nat × Nat × Int)) := [[(0, 4, 0), (1, 0, 1), (2, 201, 160)]]
def k_X9_meanGoals : List (List (Nat × Nat × Int)) := [[(0, 4, 0), (1, 201, 177), (4, 7, 1), (5, 0, 1), (6, 33, 14), (9, 202, 9)]]
def k_X9_money : List (List (Nat × Nat × Int)) := [[(0, 18, 0), (1, 12, 1), (2, 15, 0), (3, 7, 3), (4, 0, 3), (5, 4, 0), (6, 70, 56), (9, 201, 156), (12, 41, 27), (39, 2, 1), (40, 200, 0)]]
def k_X9_name : List (List (Nat × Nat × Int)) := [[(0, 4, 0), (1, 0, 1), (2, 201, 170)]]
def k_X9_overShare : List (List (Nat × Nat × Int)) := [[(0, 4, 0), (1, 70, 60), (4, 201, 156), (7, 7, 1), (8, 0, 1), (9, 33, 14), (12, 202, 10)]]
def k_X9_plan : List (List (Nat × Nat × Int)) := [[(0, 0, 1), (1, 201, 153), (4, 33, 13), (7, 202, 2), (17, 4, 0), (18, 0, 1), (19, 201, 178), (22, 33, 12), (25, 4, 0), (26, 0, 1), (27, 201, 155), (30, 15, 2), (31, 41, 13), (34, 202, 11)]]
def k_X9_points : List (List (Nat × Nat × Int)) := [[(0, 4, 0), (1, 0, 1), (2, 201, 159)]]
def k_X9_putOff : List (List (Nat × Nat × Int)) := [[(0, 4, 0), (1, 0, 1), (2, 201, 170)]]
def k_X9_registered : List (List (Nat × Nat × Int)) := [[(0, 4, 0), (1, 0, 1), (2, 201, 160)]]
def k_X9_resultOf : List (List (Nat × Nat × Int)) := [[(0, 4, 0), (1, 0, 1), (2, 201, 170)]]
def k_X9_sell : List (List (Nat × Nat × Int)) := [[(0, 4, 0), (1, 0, 1), (2, 201, 160)]]
def k_X9_setDerby : List (List (Nat × Nat × Int)) := [[(0, 4, 0), (1, 0, 1), (2, 201, 159)]]
def k_X9_setWindow : List (List (Nat × Nat × Int)) := [[(0, 0, 1), (1, 15, 0), (2, 17, 9999), (5, 201, 154), (8, 32, 14), (11, 0, 2), (12, 15, 0), (13, 17, 9999), (16, 201, 154), (19, 33, 13), (22, 202, 12), (32, 4, 0), (33, 0, 1), (34, 72, 66), (37, 4, 0), (38, 0, 2), (39, 72, 67), (42, 4, 0), (43, 201, 179), (46, 200, 0)]]
def k_X9_stateOf : List (List (Nat × Nat × Int)) := [[(0, 4, 0), (1, 0, 1), (2, 201, 170)]]
def k_X9_strike : List (List (Nat × Nat × Int)) := [[(0, 4, 0), (1, 0, 1), (2, 201, 159)]]
def k_X9_takePoints : List (List (Nat × Nat × Int)) := [[(0, 4, 0), (1, 0, 1), (2, 201, 159)]]
def k_X9_wipe : List (List (Nat × Nat × Int)) := [[(0, 4, 0), (1, 70, 61), (4, 52, 13), (7, 4, 0), (8, 70, 58), (11, 201, 166), (14, 32, 13), (27, 4, 0), (28, 70, 58), (31, 201, 180), (34, 7, 1), (35, 4, 0), (36, 70, 58), (39, 69, 11), (42, 22, 0), (43, 15, 2), (44, 21, 0), (45, 15, 0), (46, 15, 0), (47, 201, 163), (50, 201, 164), (53, 0, 1), (54, 200, 0)]]
def k_X9_yellows : List (List (Nat × Nat × Int)) := [[(0, 4, 0), (1, 0, 1), (2, 201, 160)]]
def codeT : List (List (List (Nat × Nat × Int))) := [k_L_law, k_J7_fill_53178, k_Jx35411_hasNext_aae02, k_Jx35411_init_45d68, k_Jx4a65c_add_72be8, k_Jx4a65c_add_9ea2d, k_Jx4a65c_clear_da8c8, k_Jx4a65c_grow_92f84, k_Jx4a65c_grow_d5877, k_Jx4a65c_init_da8c8, k_Jx4a65c_isEmpty_aae02, k_Jx4a65c_iterator_32c93, k_Jx4a65c_size_8abf5, k_Jxa1e45_init_da8c8, k_Jxc12de_init_da8c8, k_L_abandon, k_L_addClub, k_L_addPlayer, k_L_appeal, k_L_ban, k_L_callBack, k_L_card, k_L_change, k_L_clubAt, k_L_divisionOf, k_L_end, k_L_endSeason, k_L_fixture, k_L_goOn, k_L_goal, k_L_isGuilty, k_L_kickOff, k_L_lend, k_L_meanGoals, k_L_name, k_L_overShare, k_L_plan, k_L_points, k_L_putOff, k_L_registered, k_L_resultOf, k_L_sell, k_L_setDerby, k_L_setWindow, k_L_stateOf, k_L_strike, k_L_takePoints, k_L_wipe, k_L_yellows, k_X0_count, k_X0_countAnew, k_X0_init, k_X0_isFull, k_X0_isSameAnew, k_X0_playersWithYellows, k_X0_write, k_X11_init, k_X12_init, k_X15_abandon, k_X15_addClub, k_X15_addPlayer, k_X15_appeal, k_X15_ban, k_X15_callBack, k_X15_card, k_X15_change, k_X15_clubAt, k_X15_clubsIn, k_X15_counting, k_X15_divisionOf, k_X15_end, k_X15_endSeason, k_X15_fixture, k_X15_goOn, k_X15_goal, k_X15_goesThrough, k_X15_hasFixtures, k_X15_init, k_X15_isClub, k_X15_isGuilty, k_X15_isIn, k_X15_isOpen, k_X15_isPlayer, k_X15_isSound, k_X15_kickOff, k_X15_lend, k_X15_meanGoals, k_X15_money, k_X15_name, k_X15_no, k_X15_noMatch, k_X15_noOn, k_X15_over, k_X15_overShare, k_X15_plan, k_X15_points, k_X15_putOff, k_X15_registered, k_X15_resultOf, k_X15_sell, k_X15_setDerby, k_X15_setWindow, k_X15_stateOf, k_X15_strike, k_X15_table, k_X15_takePoints, k_X15_thrown, k_X15_wipe, k_X15_yellows, k_X2_init, k_X3_init, k_X5_init, k_X8_addRows, k_X8_countAmong, k_X8_draw, k_X8_firstToRise, k_X8_init, k_X8_partTies, k_X8_sort, k_X9_abandon, k_X9_addClub, k_X9_addPlayer, k_X9_appeal, k_X9_ban, k_X9_callBack, k_X9_card, k_X9_change, k_X9_clearSeason, k_X9_clubAt, k_X9_clubsIn, k_X9_divisionOf, k_X9_end, k_X9_endSeason, k_X9_fixture, k_X9_fixturesOver, k_X9_goOn, k_X9_goal, k_X9_hasFixtures, k_X9_init, k_X9_isDivision, k_X9_isFixtureLeft, k_X9_isGuilty, k_X9_isSound, k_X9_isWindowOpen, k_X9_isWithin, k_X9_kickOff, k_X9_knownBit, k_X9_knownClub, k_X9_knownFixture, k_X9_knownMatch, k_X9_knownPlayer, k_X9_lend, k_X9_meanGoals, k_X9_money, k_X9_name, k_X9_overShare, k_X9_plan, k_X9_points, k_X9_putOff, k_X9_registered, k_X9_resultOf, k_X9_sell, k_X9_setDerby, k_X9_setWindow, k_X9_stateOf, k_X9_strike, k_X9_takePoints, k_X9_wipe, k_X9_yellows]
