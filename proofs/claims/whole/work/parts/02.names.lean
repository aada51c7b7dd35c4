/-! ===== BEGIN words of one list among another's, by their places ===== -/
theorem goodIn_r {big : List Cond} (ws : List Cond) (ps : List Nat) (hp : ws = ps.filterMap (fun i => big[i]?)) (h : ws.all goodWord = true) : GoodIn big ws := by
  intro w hw
  have h1 := List.all_eq_true.mp h w hw
  rw [hp] at hw
  obtain ⟨i, -, hi⟩ := List.mem_filterMap.mp hw
  have hm : w ∈ big := by first | exact List.mem_of_getElem? hi | exact List.getElem?_mem hi
  exact ⟨hm, good_of_word h1⟩
theorem goodIn_app {big a b : List Cond} (ha : GoodIn big a) (hb : GoodIn big b) : GoodIn big (a ++ b) := fun w h => (List.mem_append.mp h).elim (ha w) (hb w)
theorem goodIn_ca {big a b : List Cond} {c : Cond} (ha : GoodIn big (c :: a)) (hb : GoodIn big b) : GoodIn big (c :: (a ++ b)) := fun w h => (List.mem_cons.mp h).elim (fun e => ha w (List.mem_cons.mpr (Or.inl e))) (fun h => (List.mem_append.mp h).elim (fun h => ha w (List.mem_cons.mpr (Or.inr h))) (hb w))
theorem goodIn_sub {big ws : List Cond} (hm : ∀ w ∈ ws, w ∈ big) (h : ws.all goodWord = true) : GoodIn big ws := fun w hw => ⟨hm w hw, good_of_word (List.all_eq_true.mp h w hw)⟩
/-! ===== END ===== -/

/-! ===== BEGIN printed: names, fields, word lists, decode rows ===== -/
def RX0 : String := "RiverCampaign$Board"
def TX0 : u_T := fun k => match k with
  | _ => ("RiverCampaign$Board", "neighbours", "[I", true)
def tyX0 : Nat → FieldType := fun k => match k with
  | _ => .array .int
abbrev wsX00 : List Cond := u_ws RX0 TX0 1
theorem nmX0 : ∀ a, a < 1 → ∀ b, b < 1 → a ≠ b → (TX0 a).2.1 ≠ (TX0 b).2.1 := by decide +kernel
theorem tyX0_ok : ∀ k, k < 1 → parseFieldDescriptor (TX0 k).2.2.1 = some (tyX0 k) := by decide +kernel
abbrev cX0_init : ByteArray := prog_2_method_1_code
def yX0_init : MethodName := ⟨RX0, "<init>", "()V"⟩
abbrev cX0_isHex : ByteArray := prog_2_method_2_code
def yX0_isHex : MethodName := ⟨RX0, "isHex", "(I)Z"⟩
abbrev cX0_isDirection : ByteArray := prog_2_method_3_code
def yX0_isDirection : MethodName := ⟨RX0, "isDirection", "(I)Z"⟩
abbrev cX0_opposite : ByteArray := prog_2_method_4_code
def yX0_opposite : MethodName := ⟨RX0, "opposite", "(I)I"⟩
abbrev cX0_stepFrom : ByteArray := prog_2_method_5_code
def yX0_stepFrom : MethodName := ⟨RX0, "stepFrom", "(II)I"⟩
abbrev cX0_stepsBetween : ByteArray := prog_2_method_6_code
def yX0_stepsBetween : MethodName := ⟨RX0, "stepsBetween", "(II)I"⟩
abbrev cX0_slantOf : ByteArray := prog_2_method_7_code
def yX0_slantOf : MethodName := ⟨RX0, "slantOf", "(I)I"⟩
abbrev cX0_neighbourCount : ByteArray := prog_2_method_8_code
def yX0_neighbourCount : MethodName := ⟨RX0, "neighbourCount", "(I)I"⟩
abbrev cX0_directionTo : ByteArray := prog_2_method_9_code
def yX0_directionTo : MethodName := ⟨RX0, "directionTo", "(II)I"⟩
def RX1 : String := "RiverCampaign$Fight"
def TX1 : u_T := fun k => match k with
  | 0 => ("RiverCampaign$Fight", "board", "LRiverCampaign$Board;", true)
  | 1 => ("RiverCampaign$Fight", "supply", "LRiverCampaign$Supply;", true)
  | 2 => ("RiverCampaign$Fight", "attackPower", "I", false)
  | 3 => ("RiverCampaign$Fight", "defencePower", "I", false)
  | 4 => ("RiverCampaign$Fight", "attackerLeft", "I", false)
  | _ => ("RiverCampaign$Fight", "defenderLeft", "I", false)
def tyX1 : Nat → FieldType := fun k => match k with
  | 0 => .object "RiverCampaign$Board"
  | 1 => .object "RiverCampaign$Supply"
  | 2 => .int
  | 3 => .int
  | 4 => .int
  | _ => .int
abbrev wsX10 : List Cond := u_ws RX1 TX1 6
theorem nmX1 : ∀ a, a < 6 → ∀ b, b < 6 → a ≠ b → (TX1 a).2.1 ≠ (TX1 b).2.1 := by decide +kernel
theorem tyX1_ok : ∀ k, k < 6 → parseFieldDescriptor (TX1 k).2.2.1 = some (tyX1 k) := by decide +kernel
abbrev cX1_init : ByteArray := prog_3_method_1_code
def yX1_init : MethodName := ⟨RX1, "<init>", "(LRiverCampaign$Board;LRiverCampaign$Supply;)V"⟩
abbrev cX1_weigh : ByteArray := prog_3_method_2_code
def yX1_weigh : MethodName := ⟨RX1, "weigh", "(LRiverCampaign$State;II)V"⟩
abbrev cX1_powerOfAttack : ByteArray := prog_3_method_3_code
def yX1_powerOfAttack : MethodName := ⟨RX1, "powerOfAttack", "(LRiverCampaign$State;II)I"⟩
abbrev cX1_powerOfDefence : ByteArray := prog_3_method_4_code
def yX1_powerOfDefence : MethodName := ⟨RX1, "powerOfDefence", "(LRiverCampaign$State;I)I"⟩
def RX2 : String := "RiverCampaign$History"
def TX2 : u_T := fun k => match k with
  | 0 => ("RiverCampaign$History", "states", "[LRiverCampaign$State;", true)
  | 1 => ("RiverCampaign$History", "next", "I", false)
  | _ => ("RiverCampaign$History", "size", "I", false)
def tyX2 : Nat → FieldType := fun k => match k with
  | 0 => .array (.object "RiverCampaign$State")
  | 1 => .int
  | _ => .int
abbrev wsX20 : List Cond := u_ws RX2 TX2 3
theorem nmX2 : ∀ a, a < 3 → ∀ b, b < 3 → a ≠ b → (TX2 a).2.1 ≠ (TX2 b).2.1 := by decide +kernel
theorem tyX2_ok : ∀ k, k < 3 → parseFieldDescriptor (TX2 k).2.2.1 = some (tyX2 k) := by decide +kernel
abbrev cX2_init : ByteArray := prog_4_method_1_code
def yX2_init : MethodName := ⟨RX2, "<init>", "(LRiverCampaign$Board;)V"⟩
abbrev cX2_record : ByteArray := prog_4_method_2_code
def yX2_record : MethodName := ⟨RX2, "record", "(LRiverCampaign$State;)V"⟩
abbrev cX2_takeBack : ByteArray := prog_4_method_3_code
def yX2_takeBack : MethodName := ⟨RX2, "takeBack", "(LRiverCampaign$State;)Z"⟩
def RX3 : String := "RiverCampaign$Orders"
def TX3 : u_T := fun k => match k with
  | 0 => ("RiverCampaign$Orders", "text", "[C", true)
  | 1 => ("RiverCampaign$Orders", "length", "I", false)
  | 2 => ("RiverCampaign$Orders", "count", "I", false)
  | 3 => ("RiverCampaign$Orders", "signs", "[C", true)
  | 4 => ("RiverCampaign$Orders", "units", "[I", true)
  | 5 => ("RiverCampaign$Orders", "hexes", "[I", true)
  | 6 => ("RiverCampaign$Orders", "unitRead", "I", false)
  | 7 => ("RiverCampaign$Orders", "signRead", "C", false)
  | _ => ("RiverCampaign$Orders", "columnRead", "I", false)
def tyX3 : Nat → FieldType := fun k => match k with
  | 0 => .array .char
  | 1 => .int
  | 2 => .int
  | 3 => .array .char
  | 4 => .array .int
  | 5 => .array .int
  | 6 => .int
  | 7 => .char
  | _ => .int
abbrev wsX30 : List Cond := u_ws RX3 TX3 9
theorem nmX3 : ∀ a, a < 9 → ∀ b, b < 9 → a ≠ b → (TX3 a).2.1 ≠ (TX3 b).2.1 := by decide +kernel
theorem tyX3_ok : ∀ k, k < 9 → parseFieldDescriptor (TX3 k).2.2.1 = some (tyX3 k) := by decide +kernel
abbrev cX3_init : ByteArray := prog_5_method_1_code
def yX3_init : MethodName := ⟨RX3, "<init>", "()V"⟩
abbrev cX3_append : ByteArray := prog_5_method_2_code
def yX3_append : MethodName := ⟨RX3, "append", "(C)Z"⟩
abbrev cX3_read : ByteArray := prog_5_method_3_code
def yX3_read : MethodName := ⟨RX3, "read", "()I"⟩
abbrev cX3_stageAfter : ByteArray := prog_5_method_4_code
def yX3_stageAfter : MethodName := ⟨RX3, "stageAfter", "(IC)I"⟩
abbrev cX3_isIn : ByteArray := prog_5_method_5_code
def yX3_isIn : MethodName := ⟨RX3, "isIn", "(CCC)Z"⟩
abbrev cX3_readFirst : ByteArray := prog_5_method_6_code
def yX3_readFirst : MethodName := ⟨RX3, "readFirst", "(C)I"⟩
abbrev cX3_readUnit : ByteArray := prog_5_method_7_code
def yX3_readUnit : MethodName := ⟨RX3, "readUnit", "(I)I"⟩
abbrev cX3_readSign : ByteArray := prog_5_method_8_code
def yX3_readSign : MethodName := ⟨RX3, "readSign", "(C)I"⟩
abbrev cX3_readColumn : ByteArray := prog_5_method_9_code
def yX3_readColumn : MethodName := ⟨RX3, "readColumn", "(C)I"⟩
abbrev cX3_readRow : ByteArray := prog_5_method_10_code
def yX3_readRow : MethodName := ⟨RX3, "readRow", "(C)I"⟩
abbrev cX3_addOrder : ByteArray := prog_5_method_11_code
def yX3_addOrder : MethodName := ⟨RX3, "addOrder", "(I)I"⟩
def RX4 : String := "RiverCampaign$State"
def TX4 : u_T := fun k => match k with
  | 0 => ("RiverCampaign$State", "board", "LRiverCampaign$Board;", true)
  | 1 => ("RiverCampaign$State", "grounds", "[I", true)
  | 2 => ("RiverCampaign$State", "rivers", "[I", true)
  | 3 => ("RiverCampaign$State", "forts", "[I", true)
  | 4 => ("RiverCampaign$State", "unitOn", "[I", true)
  | 5 => ("RiverCampaign$State", "bases", "[I", true)
  | 6 => ("RiverCampaign$State", "units", "I", false)
  | 7 => ("RiverCampaign$State", "sides", "[I", true)
  | 8 => ("RiverCampaign$State", "strengths", "[I", true)
  | 9 => ("RiverCampaign$State", "hexes", "[I", true)
  | 10 => ("RiverCampaign$State", "points", "[I", true)
  | 11 => ("RiverCampaign$State", "attacksLeft", "[I", true)
  | 12 => ("RiverCampaign$State", "starved", "[I", true)
  | _ => ("RiverCampaign$State", "turns", "I", false)
def tyX4 : Nat → FieldType := fun k => match k with
  | 0 => .object "RiverCampaign$Board"
  | 1 => .array .int
  | 2 => .array .int
  | 3 => .array .int
  | 4 => .array .int
  | 5 => .array .int
  | 6 => .int
  | 7 => .array .int
  | 8 => .array .int
  | 9 => .array .int
  | 10 => .array .int
  | 11 => .array .int
  | 12 => .array .int
  | _ => .int
abbrev wsX40 : List Cond := u_ws RX4 TX4 14
theorem nmX4 : ∀ a, a < 14 → ∀ b, b < 14 → a ≠ b → (TX4 a).2.1 ≠ (TX4 b).2.1 := by decide +kernel
theorem tyX4_ok : ∀ k, k < 14 → parseFieldDescriptor (TX4 k).2.2.1 = some (tyX4 k) := by decide +kernel
abbrev cX4_init : ByteArray := prog_6_method_1_code
def yX4_init : MethodName := ⟨RX4, "<init>", "(LRiverCampaign$Board;)V"⟩
abbrev cX4_copyFrom : ByteArray := prog_6_method_2_code
def yX4_copyFrom : MethodName := ⟨RX4, "copyFrom", "(LRiverCampaign$State;)V"⟩
abbrev cX4_sideInTurn : ByteArray := prog_6_method_3_code
def yX4_sideInTurn : MethodName := ⟨RX4, "sideInTurn", "()I"⟩
abbrev cX4_isUnit : ByteArray := prog_6_method_4_code
def yX4_isUnit : MethodName := ⟨RX4, "isUnit", "(I)Z"⟩
abbrev cX4_isUnitOf : ByteArray := prog_6_method_5_code
def yX4_isUnitOf : MethodName := ⟨RX4, "isUnitOf", "(II)Z"⟩
abbrev cX4_sideOn : ByteArray := prog_6_method_6_code
def yX4_sideOn : MethodName := ⟨RX4, "sideOn", "(I)I"⟩
abbrev cX4_hasFort : ByteArray := prog_6_method_7_code
def yX4_hasFort : MethodName := ⟨RX4, "hasFort", "(I)Z"⟩
abbrev cX4_hasRiver : ByteArray := prog_6_method_8_code
def yX4_hasRiver : MethodName := ⟨RX4, "hasRiver", "(II)Z"⟩
abbrev cX4_addUnit : ByteArray := prog_6_method_9_code
def yX4_addUnit : MethodName := ⟨RX4, "addUnit", "(III)I"⟩
abbrev cX4_shift : ByteArray := prog_6_method_10_code
def yX4_shift : MethodName := ⟨RX4, "shift", "(II)V"⟩
abbrev cX4_stand : ByteArray := prog_6_method_11_code
def yX4_stand : MethodName := ⟨RX4, "stand", "(II)V"⟩
abbrev cX4_giveFortToUnit : ByteArray := prog_6_method_12_code
def yX4_giveFortToUnit : MethodName := ⟨RX4, "giveFortToUnit", "(I)V"⟩
abbrev cX4_setStrength : ByteArray := prog_6_method_13_code
def yX4_setStrength : MethodName := ⟨RX4, "setStrength", "(II)V"⟩
abbrev cX4_refresh : ByteArray := prog_6_method_14_code
def yX4_refresh : MethodName := ⟨RX4, "refresh", "(I)V"⟩
abbrev cX4_inZone : ByteArray := prog_6_method_15_code
def yX4_inZone : MethodName := ⟨RX4, "inZone", "(II)Z"⟩
abbrev cX4_isSeen : ByteArray := prog_6_method_16_code
def yX4_isSeen : MethodName := ⟨RX4, "isSeen", "(II)Z"⟩
abbrev cX4_isSeenByUnit : ByteArray := prog_6_method_17_code
def yX4_isSeenByUnit : MethodName := ⟨RX4, "isSeenByUnit", "(II)Z"⟩
abbrev cX4_isSeenByFort : ByteArray := prog_6_method_18_code
def yX4_isSeenByFort : MethodName := ⟨RX4, "isSeenByFort", "(II)Z"⟩
abbrev cX4_seenCount : ByteArray := prog_6_method_19_code
def yX4_seenCount : MethodName := ⟨RX4, "seenCount", "(I)I"⟩
abbrev cX4_unitCount : ByteArray := prog_6_method_20_code
def yX4_unitCount : MethodName := ⟨RX4, "unitCount", "(I)I"⟩
abbrev cX4_strengthOf : ByteArray := prog_6_method_21_code
def yX4_strengthOf : MethodName := ⟨RX4, "strengthOf", "(I)I"⟩
abbrev cX4_fortCount : ByteArray := prog_6_method_22_code
def yX4_fortCount : MethodName := ⟨RX4, "fortCount", "(I)I"⟩
abbrev cX4_riverCount : ByteArray := prog_6_method_23_code
def yX4_riverCount : MethodName := ⟨RX4, "riverCount", "()I"⟩
def RX5 : String := "RiverCampaign$Supply"
def TX5 : u_T := fun k => match k with
  | 0 => ("RiverCampaign$Supply", "board", "LRiverCampaign$Board;", true)
  | 1 => ("RiverCampaign$Supply", "steps", "[I", true)
  | _ => ("RiverCampaign$Supply", "free", "[Z", true)
def tyX5 : Nat → FieldType := fun k => match k with
  | 0 => .object "RiverCampaign$Board"
  | 1 => .array .int
  | _ => .array .boolean
abbrev wsX50 : List Cond := u_ws RX5 TX5 3
theorem nmX5 : ∀ a, a < 3 → ∀ b, b < 3 → a ≠ b → (TX5 a).2.1 ≠ (TX5 b).2.1 := by decide +kernel
theorem tyX5_ok : ∀ k, k < 3 → parseFieldDescriptor (TX5 k).2.2.1 = some (tyX5 k) := by decide +kernel
abbrev cX5_init : ByteArray := prog_7_method_1_code
def yX5_init : MethodName := ⟨RX5, "<init>", "(LRiverCampaign$Board;)V"⟩
abbrev cX5_measure : ByteArray := prog_7_method_2_code
def yX5_measure : MethodName := ⟨RX5, "measure", "(LRiverCampaign$State;I)V"⟩
abbrev cX5_spread : ByteArray := prog_7_method_3_code
def yX5_spread : MethodName := ⟨RX5, "spread", "(I)V"⟩
abbrev cX5_isFree : ByteArray := prog_7_method_4_code
def yX5_isFree : MethodName := ⟨RX5, "isFree", "(LRiverCampaign$State;II)Z"⟩
abbrev cX5_reaches : ByteArray := prog_7_method_5_code
def yX5_reaches : MethodName := ⟨RX5, "reaches", "(I)Z"⟩
def RX6 : String := "RiverCampaign$Ways"
def TX6 : u_T := fun k => match k with
  | 0 => ("RiverCampaign$Ways", "board", "LRiverCampaign$Board;", true)
  | _ => ("RiverCampaign$Ways", "costs", "[I", true)
def tyX6 : Nat → FieldType := fun k => match k with
  | 0 => .object "RiverCampaign$Board"
  | _ => .array .int
abbrev wsX60 : List Cond := u_ws RX6 TX6 2
theorem nmX6 : ∀ a, a < 2 → ∀ b, b < 2 → a ≠ b → (TX6 a).2.1 ≠ (TX6 b).2.1 := by decide +kernel
theorem tyX6_ok : ∀ k, k < 2 → parseFieldDescriptor (TX6 k).2.2.1 = some (tyX6 k) := by decide +kernel
abbrev cX6_init : ByteArray := prog_8_method_1_code
def yX6_init : MethodName := ⟨RX6, "<init>", "(LRiverCampaign$Board;)V"⟩
abbrev cX6_measure : ByteArray := prog_8_method_2_code
def yX6_measure : MethodName := ⟨RX6, "measure", "(LRiverCampaign$State;I)V"⟩
abbrev cX6_goOn : ByteArray := prog_8_method_3_code
def yX6_goOn : MethodName := ⟨RX6, "goOn", "(LRiverCampaign$State;II)V"⟩
abbrev cX6_costOfStep : ByteArray := prog_8_method_4_code
def yX6_costOfStep : MethodName := ⟨RX6, "costOfStep", "(LRiverCampaign$State;III)I"⟩
abbrev cX6_canEndOn : ByteArray := prog_8_method_5_code
def yX6_canEndOn : MethodName := ⟨RX6, "canEndOn", "(LRiverCampaign$State;I)Z"⟩
abbrev cX6_endCount : ByteArray := prog_8_method_6_code
def yX6_endCount : MethodName := ⟨RX6, "endCount", "(LRiverCampaign$State;)I"⟩
def RX7 : String := "RiverCampaign"
def TX7 : u_T := fun k => match k with
  | 0 => ("RiverCampaign", "board", "LRiverCampaign$Board;", true)
  | 1 => ("RiverCampaign", "now", "LRiverCampaign$State;", true)
  | 2 => ("RiverCampaign", "past", "LRiverCampaign$State;", true)
  | 3 => ("RiverCampaign", "snapshot", "LRiverCampaign$State;", true)
  | 4 => ("RiverCampaign", "hasSnapshot", "Z", false)
  | 5 => ("RiverCampaign", "history", "LRiverCampaign$History;", true)
  | 6 => ("RiverCampaign", "orders", "LRiverCampaign$Orders;", true)
  | 7 => ("RiverCampaign", "ways", "LRiverCampaign$Ways;", true)
  | 8 => ("RiverCampaign", "supply", "LRiverCampaign$Supply;", true)
  | _ => ("RiverCampaign", "fight", "LRiverCampaign$Fight;", true)
def tyX7 : Nat → FieldType := fun k => match k with
  | 0 => .object "RiverCampaign$Board"
  | 1 => .object "RiverCampaign$State"
  | 2 => .object "RiverCampaign$State"
  | 3 => .object "RiverCampaign$State"
  | 4 => .boolean
  | 5 => .object "RiverCampaign$History"
  | 6 => .object "RiverCampaign$Orders"
  | 7 => .object "RiverCampaign$Ways"
  | 8 => .object "RiverCampaign$Supply"
  | _ => .object "RiverCampaign$Fight"
abbrev wsX70 : List Cond := u_ws RX7 TX7 10
theorem nmX7 : ∀ a, a < 10 → ∀ b, b < 10 → a ≠ b → (TX7 a).2.1 ≠ (TX7 b).2.1 := by decide +kernel
theorem tyX7_ok : ∀ k, k < 10 → parseFieldDescriptor (TX7 k).2.2.1 = some (tyX7 k) := by decide +kernel
abbrev cX7_init : ByteArray := prog_1_method_1_code
def yX7_init : MethodName := ⟨RX7, "<init>", "()V"⟩
abbrev cX7_ground : ByteArray := prog_1_method_2_code
def yX7_ground : MethodName := ⟨RX7, "ground", "(II)I"⟩
abbrev cX7_river : ByteArray := prog_1_method_3_code
def yX7_river : MethodName := ⟨RX7, "river", "(IIZ)I"⟩
abbrev cX7_fort : ByteArray := prog_1_method_4_code
def yX7_fort : MethodName := ⟨RX7, "fort", "(II)I"⟩
abbrev cX7_base : ByteArray := prog_1_method_5_code
def yX7_base : MethodName := ⟨RX7, "base", "(II)I"⟩
abbrev cX7_place : ByteArray := prog_1_method_6_code
def yX7_place : MethodName := ⟨RX7, "place", "(III)I"⟩
abbrev cX7_move : ByteArray := prog_1_method_7_code
def yX7_move : MethodName := ⟨RX7, "move", "(II)I"⟩
abbrev cX7_attack : ByteArray := prog_1_method_8_code
def yX7_attack : MethodName := ⟨RX7, "attack", "(II)I"⟩
abbrev cX7_endTurn : ByteArray := prog_1_method_9_code
def yX7_endTurn : MethodName := ⟨RX7, "endTurn", "()I"⟩
abbrev cX7_perform : ByteArray := prog_1_method_10_code
def yX7_perform : MethodName := ⟨RX7, "perform", "()I"⟩
abbrev cX7_recordedIfDone : ByteArray := prog_1_method_11_code
def yX7_recordedIfDone : MethodName := ⟨RX7, "recordedIfDone", "(I)I"⟩
abbrev cX7_moveUnit : ByteArray := prog_1_method_12_code
def yX7_moveUnit : MethodName := ⟨RX7, "moveUnit", "(II)I"⟩
abbrev cX7_strike : ByteArray := prog_1_method_13_code
def yX7_strike : MethodName := ⟨RX7, "strike", "(II)I"⟩
abbrev cX7_canFight : ByteArray := prog_1_method_14_code
def yX7_canFight : MethodName := ⟨RX7, "canFight", "(II)Z"⟩
abbrev cX7_finishTurn : ByteArray := prog_1_method_15_code
def yX7_finishTurn : MethodName := ⟨RX7, "finishTurn", "()I"⟩
abbrev cX7_starve : ByteArray := prog_1_method_16_code
def yX7_starve : MethodName := ⟨RX7, "starve", "(I)I"⟩
abbrev cX7_type : ByteArray := prog_1_method_17_code
def yX7_type : MethodName := ⟨RX7, "type", "(C)I"⟩
abbrev cX7_clearText : ByteArray := prog_1_method_18_code
def yX7_clearText : MethodName := ⟨RX7, "clearText", "()I"⟩
abbrev cX7_undo : ByteArray := prog_1_method_19_code
def yX7_undo : MethodName := ⟨RX7, "undo", "()I"⟩
abbrev cX7_keep : ByteArray := prog_1_method_20_code
def yX7_keep : MethodName := ⟨RX7, "keep", "()I"⟩
abbrev cX7_restore : ByteArray := prog_1_method_21_code
def yX7_restore : MethodName := ⟨RX7, "restore", "()I"⟩
abbrev cX7_hex : ByteArray := prog_1_method_22_code
def yX7_hex : MethodName := ⟨RX7, "hex", "(II)I"⟩
abbrev cX7_beside : ByteArray := prog_1_method_23_code
def yX7_beside : MethodName := ⟨RX7, "beside", "(II)I"⟩
abbrev cX7_distance : ByteArray := prog_1_method_24_code
def yX7_distance : MethodName := ⟨RX7, "distance", "(II)I"⟩
abbrev cX7_unit : ByteArray := prog_1_method_25_code
def yX7_unit : MethodName := ⟨RX7, "unit", "(II)I"⟩
abbrev cX7_cost : ByteArray := prog_1_method_26_code
def yX7_cost : MethodName := ⟨RX7, "cost", "(II)I"⟩
abbrev cX7_would : ByteArray := prog_1_method_27_code
def yX7_would : MethodName := ⟨RX7, "would", "(III)I"⟩
abbrev cX7_besieged : ByteArray := prog_1_method_28_code
def yX7_besieged : MethodName := ⟨RX7, "besieged", "(I)I"⟩
abbrev cX7_count : ByteArray := prog_1_method_29_code
def yX7_count : MethodName := ⟨RX7, "count", "(I)I"⟩
abbrev cX7_isSide : ByteArray := prog_1_method_30_code
def yX7_isSide : MethodName := ⟨RX7, "isSide", "(I)Z"⟩
abbrev cX7_oneIf : ByteArray := prog_1_method_31_code
def yX7_oneIf : MethodName := ⟨RX7, "oneIf", "(Z)I"⟩
def RX8 : String := "RiverCampaignModel"
def TX8 : u_T := fun k => match k with
  | 0 => ("RiverCampaignModel", "thrown", "I", false)
  | 1 => ("RiverCampaignModel", "s", "[I", true)
  | 2 => ("RiverCampaignModel", "aside", "[I", true)
  | 3 => ("RiverCampaignModel", "saved", "[I", true)
  | 4 => ("RiverCampaignModel", "savedMany", "I", false)
  | 5 => ("RiverCampaignModel", "snapshot", "[I", true)
  | 6 => ("RiverCampaignModel", "hasSnapshot", "Z", false)
  | 7 => ("RiverCampaignModel", "text", "[I", true)
  | 8 => ("RiverCampaignModel", "length", "I", false)
  | 9 => ("RiverCampaignModel", "costs", "[I", true)
  | 10 => ("RiverCampaignModel", "isDone", "[Z", true)
  | 11 => ("RiverCampaignModel", "steps", "[I", true)
  | 12 => ("RiverCampaignModel", "isZone", "[Z", true)
  | 13 => ("RiverCampaignModel", "starves", "[Z", true)
  | 14 => ("RiverCampaignModel", "at", "I", false)
  | 15 => ("RiverCampaignModel", "isWell", "Z", false)
  | 16 => ("RiverCampaignModel", "orders", "[I", true)
  | _ => ("RiverCampaignModel", "orderMany", "I", false)
def tyX8 : Nat → FieldType := fun k => match k with
  | 0 => .int
  | 1 => .array .int
  | 2 => .array .int
  | 3 => .array .int
  | 4 => .int
  | 5 => .array .int
  | 6 => .boolean
  | 7 => .array .int
  | 8 => .int
  | 9 => .array .int
  | 10 => .array .boolean
  | 11 => .array .int
  | 12 => .array .boolean
  | 13 => .array .boolean
  | 14 => .int
  | 15 => .boolean
  | 16 => .array .int
  | _ => .int
abbrev wsX80 : List Cond := u_ws RX8 TX8 18
theorem nmX8 : ∀ a, a < 18 → ∀ b, b < 18 → a ≠ b → (TX8 a).2.1 ≠ (TX8 b).2.1 := by decide +kernel
theorem tyX8_ok : ∀ k, k < 18 → parseFieldDescriptor (TX8 k).2.2.1 = some (tyX8 k) := by decide +kernel
abbrev cX8_init : ByteArray := prog_10_method_1_code
def yX8_init : MethodName := ⟨RX8, "<init>", "()V"⟩
abbrev cX8_in : ByteArray := prog_10_method_3_code
def yX8_in : MethodName := ⟨RX8, "in", "(III)Z"⟩
abbrev cX8_isHex : ByteArray := prog_10_method_4_code
def yX8_isHex : MethodName := ⟨RX8, "isHex", "(I)Z"⟩
abbrev cX8_of : ByteArray := prog_10_method_5_code
def yX8_of : MethodName := ⟨RX8, "of", "(II)I"⟩
abbrev cX8_lay : ByteArray := prog_10_method_6_code
def yX8_lay : MethodName := ⟨RX8, "lay", "(III)V"⟩
abbrev cX8_isUnit : ByteArray := prog_10_method_7_code
def yX8_isUnit : MethodName := ⟨RX8, "isUnit", "(I)Z"⟩
abbrev cX8_records : ByteArray := prog_10_method_8_code
def yX8_records : MethodName := ⟨RX8, "records", "()V"⟩
abbrev cX8_putAside : ByteArray := prog_10_method_9_code
def yX8_putAside : MethodName := ⟨RX8, "putAside", "()V"⟩
abbrev cX8_takeBack : ByteArray := prog_10_method_10_code
def yX8_takeBack : MethodName := ⟨RX8, "takeBack", "()V"⟩
abbrev cX8_next : ByteArray := prog_10_method_11_code
def yX8_next : MethodName := ⟨RX8, "next", "(II)I"⟩
abbrev cX8_directionTo : ByteArray := prog_10_method_12_code
def yX8_directionTo : MethodName := ⟨RX8, "directionTo", "(II)I"⟩
abbrev cX8_hasRiver : ByteArray := prog_10_method_13_code
def yX8_hasRiver : MethodName := ⟨RX8, "hasRiver", "(II)Z"⟩
abbrev cX8_unitOn : ByteArray := prog_10_method_14_code
def yX8_unitOn : MethodName := ⟨RX8, "unitOn", "(I)I"⟩
abbrev cX8_isOn : ByteArray := prog_10_method_15_code
def yX8_isOn : MethodName := ⟨RX8, "isOn", "(II)Z"⟩
abbrev cX8_isInZone : ByteArray := prog_10_method_16_code
def yX8_isInZone : MethodName := ⟨RX8, "isInZone", "(II)Z"⟩
abbrev cX8_laysZone : ByteArray := prog_10_method_17_code
def yX8_laysZone : MethodName := ⟨RX8, "laysZone", "(I)V"⟩
abbrev cX8_laysDistances : ByteArray := prog_10_method_18_code
def yX8_laysDistances : MethodName := ⟨RX8, "laysDistances", "(I)V"⟩
abbrev cX8_stands : ByteArray := prog_10_method_19_code
def yX8_stands : MethodName := ⟨RX8, "stands", "(II)V"⟩
abbrev cX8_entering : ByteArray := prog_10_method_20_code
def yX8_entering : MethodName := ⟨RX8, "entering", "(III)I"⟩
abbrev cX8_laysWays : ByteArray := prog_10_method_21_code
def yX8_laysWays : MethodName := ⟨RX8, "laysWays", "(I)V"⟩
abbrev cX8_cheapest : ByteArray := prog_10_method_22_code
def yX8_cheapest : MethodName := ⟨RX8, "cheapest", "()I"⟩
abbrev cX8_canReach : ByteArray := prog_10_method_23_code
def yX8_canReach : MethodName := ⟨RX8, "canReach", "(II)Z"⟩
abbrev cX8_isSource : ByteArray := prog_10_method_24_code
def yX8_isSource : MethodName := ⟨RX8, "isSource", "(II)Z"⟩
abbrev cX8_isFree : ByteArray := prog_10_method_25_code
def yX8_isFree : MethodName := ⟨RX8, "isFree", "(II)Z"⟩
abbrev cX8_toSource : ByteArray := prog_10_method_26_code
def yX8_toSource : MethodName := ⟨RX8, "toSource", "(I)I"⟩
abbrev cX8_isSupplied : ByteArray := prog_10_method_27_code
def yX8_isSupplied : MethodName := ⟨RX8, "isSupplied", "(I)Z"⟩
abbrev cX8_sees : ByteArray := prog_10_method_28_code
def yX8_sees : MethodName := ⟨RX8, "sees", "(II)Z"⟩
abbrev cX8_power : ByteArray := prog_10_method_29_code
def yX8_power : MethodName := ⟨RX8, "power", "(II)I"⟩
abbrev cX8_defence : ByteArray := prog_10_method_30_code
def yX8_defence : MethodName := ⟨RX8, "defence", "(I)I"⟩
abbrev cX8_weakened : ByteArray := prog_10_method_31_code
def yX8_weakened : MethodName := ⟨RX8, "weakened", "(II)I"⟩
abbrev cX8_canFight : ByteArray := prog_10_method_32_code
def yX8_canFight : MethodName := ⟨RX8, "canFight", "(II)Z"⟩
abbrev cX8_fights : ByteArray := prog_10_method_33_code
def yX8_fights : MethodName := ⟨RX8, "fights", "(II)I"⟩
abbrev cX8_ground : ByteArray := prog_10_method_34_code
def yX8_ground : MethodName := ⟨RX8, "ground", "(II)I"⟩
abbrev cX8_rivers : ByteArray := prog_10_method_35_code
def yX8_rivers : MethodName := ⟨RX8, "rivers", "()I"⟩
abbrev cX8_river : ByteArray := prog_10_method_36_code
def yX8_river : MethodName := ⟨RX8, "river", "(IIZ)I"⟩
abbrev cX8_forts : ByteArray := prog_10_method_37_code
def yX8_forts : MethodName := ⟨RX8, "forts", "(I)I"⟩
abbrev cX8_fort : ByteArray := prog_10_method_38_code
def yX8_fort : MethodName := ⟨RX8, "fort", "(II)I"⟩
abbrev cX8_base : ByteArray := prog_10_method_39_code
def yX8_base : MethodName := ⟨RX8, "base", "(II)I"⟩
abbrev cX8_place : ByteArray := prog_10_method_40_code
def yX8_place : MethodName := ⟨RX8, "place", "(III)I"⟩
abbrev cX8_isAtTurn : ByteArray := prog_10_method_41_code
def yX8_isAtTurn : MethodName := ⟨RX8, "isAtTurn", "(I)Z"⟩
abbrev cX8_refusesMove : ByteArray := prog_10_method_42_code
def yX8_refusesMove : MethodName := ⟨RX8, "refusesMove", "(II)I"⟩
abbrev cX8_moves : ByteArray := prog_10_method_43_code
def yX8_moves : MethodName := ⟨RX8, "moves", "(II)I"⟩
abbrev cX8_move : ByteArray := prog_10_method_44_code
def yX8_move : MethodName := ⟨RX8, "move", "(II)I"⟩
abbrev cX8_refusesAttack : ByteArray := prog_10_method_45_code
def yX8_refusesAttack : MethodName := ⟨RX8, "refusesAttack", "(II)I"⟩
abbrev cX8_attack : ByteArray := prog_10_method_46_code
def yX8_attack : MethodName := ⟨RX8, "attack", "(II)I"⟩
abbrev cX8_ends : ByteArray := prog_10_method_47_code
def yX8_ends : MethodName := ⟨RX8, "ends", "()I"⟩
abbrev cX8_endTurn : ByteArray := prog_10_method_48_code
def yX8_endTurn : MethodName := ⟨RX8, "endTurn", "()I"⟩
abbrev cX8_type : ByteArray := prog_10_method_49_code
def yX8_type : MethodName := ⟨RX8, "type", "(C)I"⟩
abbrev cX8_clearText : ByteArray := prog_10_method_50_code
def yX8_clearText : MethodName := ⟨RX8, "clearText", "()I"⟩
abbrev cX8_sign : ByteArray := prog_10_method_51_code
def yX8_sign : MethodName := ⟨RX8, "sign", "()I"⟩
abbrev cX8_takes : ByteArray := prog_10_method_52_code
def yX8_takes : MethodName := ⟨RX8, "takes", "(II)I"⟩
abbrev cX8_readsOrder : ByteArray := prog_10_method_53_code
def yX8_readsOrder : MethodName := ⟨RX8, "readsOrder", "()V"⟩
abbrev cX8_reads : ByteArray := prog_10_method_54_code
def yX8_reads : MethodName := ⟨RX8, "reads", "()I"⟩
abbrev cX8_does : ByteArray := prog_10_method_55_code
def yX8_does : MethodName := ⟨RX8, "does", "(I)I"⟩
abbrev cX8_perform : ByteArray := prog_10_method_56_code
def yX8_perform : MethodName := ⟨RX8, "perform", "()I"⟩
abbrev cX8_undo : ByteArray := prog_10_method_57_code
def yX8_undo : MethodName := ⟨RX8, "undo", "()I"⟩
abbrev cX8_keep : ByteArray := prog_10_method_58_code
def yX8_keep : MethodName := ⟨RX8, "keep", "()I"⟩
abbrev cX8_restore : ByteArray := prog_10_method_59_code
def yX8_restore : MethodName := ⟨RX8, "restore", "()I"⟩
abbrev cX8_besides : ByteArray := prog_10_method_60_code
def yX8_besides : MethodName := ⟨RX8, "besides", "(I)I"⟩
abbrev cX8_hex : ByteArray := prog_10_method_61_code
def yX8_hex : MethodName := ⟨RX8, "hex", "(II)I"⟩
abbrev cX8_beside : ByteArray := prog_10_method_62_code
def yX8_beside : MethodName := ⟨RX8, "beside", "(II)I"⟩
abbrev cX8_distance : ByteArray := prog_10_method_63_code
def yX8_distance : MethodName := ⟨RX8, "distance", "(II)I"⟩
abbrev cX8_reaches : ByteArray := prog_10_method_64_code
def yX8_reaches : MethodName := ⟨RX8, "reaches", "(I)I"⟩
abbrev cX8_unit : ByteArray := prog_10_method_65_code
def yX8_unit : MethodName := ⟨RX8, "unit", "(II)I"⟩
abbrev cX8_cost : ByteArray := prog_10_method_66_code
def yX8_cost : MethodName := ⟨RX8, "cost", "(II)I"⟩
abbrev cX8_would : ByteArray := prog_10_method_67_code
def yX8_would : MethodName := ⟨RX8, "would", "(III)I"⟩
abbrev cX8_besieged : ByteArray := prog_10_method_68_code
def yX8_besieged : MethodName := ⟨RX8, "besieged", "(I)I"⟩
abbrev cX8_unitsOf : ByteArray := prog_10_method_69_code
def yX8_unitsOf : MethodName := ⟨RX8, "unitsOf", "(II)I"⟩
abbrev cX8_seen : ByteArray := prog_10_method_70_code
def yX8_seen : MethodName := ⟨RX8, "seen", "(I)I"⟩
abbrev cX8_count : ByteArray := prog_10_method_71_code
def yX8_count : MethodName := ⟨RX8, "count", "(I)I"⟩
def RJ6 : String := "java/lang/Integer"
def TJ6 : u_T := fun k => match k with
  | _ => ("", "", "", false)
def tyJ6 : Nat → FieldType := fun k => match k with
  | _ => .int
abbrev wsJ60 : List Cond := u_ws RJ6 TJ6 0
theorem nmJ6 : ∀ a, a < 0 → ∀ b, b < 0 → a ≠ b → (TJ6 a).2.1 ≠ (TJ6 b).2.1 := by decide +kernel
theorem tyJ6_ok : ∀ k, k < 0 → parseFieldDescriptor (TJ6 k).2.2.1 = some (tyJ6 k) := by decide +kernel
abbrev cJ6_bitCount_0f7a4 : ByteArray := prog_11_method_49_code
def yJ6_bitCount_0f7a4 : MethodName := ⟨RJ6, "bitCount", "(I)I"⟩
def RJ9 : String := "java/lang/Math"
def TJ9 : u_T := fun k => match k with
  | _ => ("", "", "", false)
def tyJ9 : Nat → FieldType := fun k => match k with
  | _ => .int
abbrev wsJ90 : List Cond := u_ws RJ9 TJ9 0
theorem nmJ9 : ∀ a, a < 0 → ∀ b, b < 0 → a ≠ b → (TJ9 a).2.1 ≠ (TJ9 b).2.1 := by decide +kernel
theorem tyJ9_ok : ∀ k, k < 0 → parseFieldDescriptor (TJ9 k).2.2.1 = some (tyJ9 k) := by decide +kernel
abbrev cJ9_abs_0f7a4 : ByteArray := prog_12_method_59_code
def yJ9_abs_0f7a4 : MethodName := ⟨RJ9, "abs", "(I)I"⟩
abbrev cJ9_max_7cf53 : ByteArray := prog_12_method_65_code
def yJ9_max_7cf53 : MethodName := ⟨RJ9, "max", "(II)I"⟩
abbrev cJ9_min_7cf53 : ByteArray := prog_12_method_69_code
def yJ9_min_7cf53 : MethodName := ⟨RJ9, "min", "(II)I"⟩
def RJ10 : String := "java/lang/System"
def TJ10 : u_T := fun k => match k with
  | _ => ("", "", "", false)
def tyJ10 : Nat → FieldType := fun k => match k with
  | _ => .int
abbrev wsJ100 : List Cond := u_ws RJ10 TJ10 0
theorem nmJ10 : ∀ a, a < 0 → ∀ b, b < 0 → a ≠ b → (TJ10 a).2.1 ≠ (TJ10 b).2.1 := by decide +kernel
theorem tyJ10_ok : ∀ k, k < 0 → parseFieldDescriptor (TJ10 k).2.2.1 = some (tyJ10 k) := by decide +kernel
def RJ7 : String := "java/util/Arrays"
def TJ7 : u_T := fun k => match k with
  | _ => ("", "", "", false)
def tyJ7 : Nat → FieldType := fun k => match k with
  | _ => .int
abbrev wsJ70 : List Cond := u_ws RJ7 TJ7 0
theorem nmJ7 : ∀ a, a < 0 → ∀ b, b < 0 → a ≠ b → (TJ7 a).2.1 ≠ (TJ7 b).2.1 := by decide +kernel
theorem tyJ7_ok : ∀ k, k < 0 → parseFieldDescriptor (TJ7 k).2.2.1 = some (tyJ7 k) := by decide +kernel
abbrev cJ7_fill_53178 : ByteArray := prog_14_method_103_code
def yJ7_fill_53178 : MethodName := ⟨RJ7, "fill", "([II)V"⟩
def RL : String := "RiverCampaignLaw"
abbrev cL_law : ByteArray := code
def yL_law : MethodName := ⟨RL, "law", "([I)Z"⟩
abbrev vwCl : List vw_C := [(RX0, TX0, 1), (RX1, TX1, 6), (RX2, TX2, 3), (RX3, TX3, 9), (RX4, TX4, 14), (RX5, TX5, 3), (RX6, TX6, 2), (RX7, TX7, 10), (RX8, TX8, 18)]
-- the words that every method may use: the good ones of lw_tbl
def mmWall : List Cond := lw_tbl.filter goodWord
theorem mmW_of {w : Cond} (h : w ∈ lw_tbl) (hg : goodWord w = true) : w ∈ mmWall := List.mem_filter.mpr ⟨h, hg⟩
theorem mmW_tbl {w : Cond} (h : w ∈ mmWall) : w ∈ lw_tbl := (List.mem_filter.mp h).1
theorem mmW_good {w : Cond} (h : w ∈ mmWall) : (w.onTables && w.keeps) = true ∨ ∃ ty, w = .arrayClass ty := good_of_word (List.mem_filter.mp h).2
theorem mmW_1 (i : Nat) {w : Cond} (h : tables_1_1[i]? = some w) (hg : goodWord w = true) : w ∈ mmWall := mmW_of (List.mem_append_right (k2_sels lw_privs) (show w ∈ tables_1 from List.mem_append_left _ (List.mem_of_getElem? h))) hg
theorem mmW_2 (i : Nat) {w : Cond} (h : tables_1_2[i]? = some w) (hg : goodWord w = true) : w ∈ mmWall := mmW_of (List.mem_append_right (k2_sels lw_privs) (show w ∈ tables_1 from List.mem_append_right _ (List.mem_append_left _ (List.mem_of_getElem? h)))) hg
theorem mmW_3 (i : Nat) {w : Cond} (h : tables_1_3[i]? = some w) (hg : goodWord w = true) : w ∈ mmWall := mmW_of (List.mem_append_right (k2_sels lw_privs) (show w ∈ tables_1 from List.mem_append_right _ (List.mem_append_right _ (List.mem_append_left _ (List.mem_of_getElem? h))))) hg
theorem mmW_4 (i : Nat) {w : Cond} (h : tables_1_4[i]? = some w) (hg : goodWord w = true) : w ∈ mmWall := mmW_of (List.mem_append_right (k2_sels lw_privs) (show w ∈ tables_1 from List.mem_append_right _ (List.mem_append_right _ (List.mem_append_right _ (List.mem_append_left _ (List.mem_of_getElem? h)))))) hg
theorem mmW_5 (i : Nat) {w : Cond} (h : tables_1_5[i]? = some w) (hg : goodWord w = true) : w ∈ mmWall := mmW_of (List.mem_append_right (k2_sels lw_privs) (show w ∈ tables_1 from List.mem_append_right _ (List.mem_append_right _ (List.mem_append_right _ (List.mem_append_right _ ((List.mem_of_getElem? h))))))) hg
theorem mmW_p1 (i : Nat) {q : MethodName × Nat} (h : lw_privs_1[i]? = some q) (hg : goodWord (Cond.selects q.1.cls q.1 q.1) = true) : Cond.selects q.1.cls q.1 q.1 ∈ mmWall := mmW_of (List.mem_append_left tables_1 (List.mem_map.mpr ⟨q, (show q ∈ lw_privs from List.mem_append_left _ (List.mem_of_getElem? h)), rfl⟩)) hg
theorem mmW_p2 (i : Nat) {q : MethodName × Nat} (h : lw_privs_2[i]? = some q) (hg : goodWord (Cond.selects q.1.cls q.1 q.1) = true) : Cond.selects q.1.cls q.1 q.1 ∈ mmWall := mmW_of (List.mem_append_left tables_1 (List.mem_map.mpr ⟨q, (show q ∈ lw_privs from List.mem_append_right _ (List.mem_append_left _ (List.mem_of_getElem? h))), rfl⟩)) hg
theorem mmW_p3 (i : Nat) {q : MethodName × Nat} (h : lw_privs_3[i]? = some q) (hg : goodWord (Cond.selects q.1.cls q.1 q.1) = true) : Cond.selects q.1.cls q.1 q.1 ∈ mmWall := mmW_of (List.mem_append_left tables_1 (List.mem_map.mpr ⟨q, (show q ∈ lw_privs from List.mem_append_right _ (List.mem_append_right _ (List.mem_append_left _ (List.mem_of_getElem? h)))), rfl⟩)) hg
theorem mmW_p4 (i : Nat) {q : MethodName × Nat} (h : lw_privs_4[i]? = some q) (hg : goodWord (Cond.selects q.1.cls q.1 q.1) = true) : Cond.selects q.1.cls q.1 q.1 ∈ mmWall := mmW_of (List.mem_append_left tables_1 (List.mem_map.mpr ⟨q, (show q ∈ lw_privs from List.mem_append_right _ (List.mem_append_right _ (List.mem_append_right _ ((List.mem_of_getElem? h))))), rfl⟩)) hg
theorem mm_ws {C : String} {T : u_T} {N : Nat} (h : ∀ k, k < N → u_lay C T k ∈ mmWall) : ∀ w ∈ u_ws C T N, w ∈ mmWall := by
  intro w hw
  obtain ⟨k, hk, rfl⟩ := List.mem_map.mp hw
  exact h k (List.mem_range.mp hk)
theorem inX0 : ∀ w ∈ wsX00, w ∈ mmWall := mm_ws (fun k hk => match k, hk with
  | 0, _ => mmW_1 42 rfl rfl
  | _ + 1, hk => absurd hk (by omega))
theorem inX1 : ∀ w ∈ wsX10, w ∈ mmWall := mm_ws (fun k hk => match k, hk with
  | 0, _ => mmW_1 229 rfl rfl
  | 1, _ => mmW_1 231 rfl rfl
  | 2, _ => mmW_1 233 rfl rfl
  | 3, _ => mmW_1 235 rfl rfl
  | 4, _ => mmW_1 237 rfl rfl
  | 5, _ => mmW_1 239 rfl rfl
  | _ + 6, hk => absurd hk (by omega))
theorem inX2 : ∀ w ∈ wsX20, w ∈ mmWall := mm_ws (fun k hk => match k, hk with
  | 0, _ => mmW_1 134 rfl rfl
  | 1, _ => mmW_1 136 rfl rfl
  | 2, _ => mmW_1 138 rfl rfl
  | _ + 3, hk => absurd hk (by omega))
theorem inX3 : ∀ w ∈ wsX30, w ∈ mmWall := mm_ws (fun k hk => match k, hk with
  | 0, _ => mmW_1 161 rfl rfl
  | 1, _ => mmW_1 163 rfl rfl
  | 2, _ => mmW_1 165 rfl rfl
  | 3, _ => mmW_1 167 rfl rfl
  | 4, _ => mmW_1 169 rfl rfl
  | 5, _ => mmW_1 171 rfl rfl
  | 6, _ => mmW_1 173 rfl rfl
  | 7, _ => mmW_1 175 rfl rfl
  | 8, _ => mmW_1 177 rfl rfl
  | _ + 9, hk => absurd hk (by omega))
theorem inX4 : ∀ w ∈ wsX40, w ∈ mmWall := mm_ws (fun k hk => match k, hk with
  | 0, _ => mmW_1 92 rfl rfl
  | 1, _ => mmW_1 94 rfl rfl
  | 2, _ => mmW_1 96 rfl rfl
  | 3, _ => mmW_1 98 rfl rfl
  | 4, _ => mmW_1 100 rfl rfl
  | 5, _ => mmW_1 102 rfl rfl
  | 6, _ => mmW_1 104 rfl rfl
  | 7, _ => mmW_1 106 rfl rfl
  | 8, _ => mmW_1 108 rfl rfl
  | 9, _ => mmW_1 110 rfl rfl
  | 10, _ => mmW_1 112 rfl rfl
  | 11, _ => mmW_1 114 rfl rfl
  | 12, _ => mmW_1 116 rfl rfl
  | 13, _ => mmW_1 118 rfl rfl
  | _ + 14, hk => absurd hk (by omega))
theorem inX5 : ∀ w ∈ wsX50, w ∈ mmWall := mm_ws (fun k hk => match k, hk with
  | 0, _ => mmW_1 205 rfl rfl
  | 1, _ => mmW_1 207 rfl rfl
  | 2, _ => mmW_1 209 rfl rfl
  | _ + 3, hk => absurd hk (by omega))
theorem inX6 : ∀ w ∈ wsX60, w ∈ mmWall := mm_ws (fun k hk => match k, hk with
  | 0, _ => mmW_1 190 rfl rfl
  | 1, _ => mmW_1 192 rfl rfl
  | _ + 2, hk => absurd hk (by omega))
theorem inX7 : ∀ w ∈ wsX70, w ∈ mmWall := mm_ws (fun k hk => match k, hk with
  | 0, _ => mmW_2 12 rfl rfl
  | 1, _ => mmW_2 14 rfl rfl
  | 2, _ => mmW_2 16 rfl rfl
  | 3, _ => mmW_2 18 rfl rfl
  | 4, _ => mmW_2 20 rfl rfl
  | 5, _ => mmW_2 22 rfl rfl
  | 6, _ => mmW_2 24 rfl rfl
  | 7, _ => mmW_2 26 rfl rfl
  | 8, _ => mmW_2 28 rfl rfl
  | 9, _ => mmW_2 30 rfl rfl
  | _ + 10, hk => absurd hk (by omega))
theorem inX8 : ∀ w ∈ wsX80, w ∈ mmWall := mm_ws (fun k hk => match k, hk with
  | 0, _ => mmW_3 184 rfl rfl
  | 1, _ => mmW_3 186 rfl rfl
  | 2, _ => mmW_3 188 rfl rfl
  | 3, _ => mmW_3 190 rfl rfl
  | 4, _ => mmW_3 192 rfl rfl
  | 5, _ => mmW_3 194 rfl rfl
  | 6, _ => mmW_3 196 rfl rfl
  | 7, _ => mmW_3 198 rfl rfl
  | 8, _ => mmW_3 200 rfl rfl
  | 9, _ => mmW_3 202 rfl rfl
  | 10, _ => mmW_3 204 rfl rfl
  | 11, _ => mmW_3 206 rfl rfl
  | 12, _ => mmW_3 208 rfl rfl
  | 13, _ => mmW_3 210 rfl rfl
  | 14, _ => mmW_3 212 rfl rfl
  | 15, _ => mmW_3 214 rfl rfl
  | 16, _ => mmW_3 216 rfl rfl
  | 17, _ => mmW_3 218 rfl rfl
  | _ + 18, hk => absurd hk (by omega))
