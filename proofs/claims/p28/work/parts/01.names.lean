/-! ===== BEGIN words of one list among another's, by their places ===== -/
theorem goodIn_r {big : List Cond} (ws : List Cond) (ps : List Nat) (hp : ws = ps.filterMap (fun i => big[i]?)) (h : ws.all goodWord = true) : GoodIn big ws := by
  intro w hw
  have h1 := List.all_eq_true.mp h w hw
  rw [hp] at hw
  obtain ⟨i, -, hi⟩ := List.mem_filterMap.mp hw
  have hm : w ∈ big := by first | exact List.mem_of_getElem? hi | exact List.getElem?_mem hi
  exact ⟨hm, good_of_word h1⟩
theorem goodIn_app {big a b : List Cond} (ha : GoodIn big a) (hb : GoodIn big b) : GoodIn big (a ++ b) := fun w h => (List.mem_append.mp h).elim (ha w) (hb w)
theorem goodIn_ca {big a b : List Cond} {c : Cond} (ha : GoodIn big (c :: a)) (hb : GoodIn big b) : GoodIn big (c :: (a ++ b)) := fun w h => (List.mem_cons.mp h).elim (fun e => ha w (List.mem_cons.mpr (Or.inl e))) (fun h => (List.mem_append.mp h).elim (fun h => ha w (List.mem_cons.mpr (Or.inr h))) (hb w))
theorem goodIn_sub {big ws : List Cond} (hm : ∀ w ∈ ws, w ∈ big) (h : ws.all goodWord = true) : GoodIn big ws := fun w hw => ⟨hm w hw, good_of_word (List.all_eq_true.mp h w hw)⟩
/-! ===== END ===== -/

/-! ===== BEGIN printed: names, fields, word lists, decode rows ===== -/
def RX0 : String := "PhaseTones$History"
def TX0 : u_T := fun k => match k with
  | 0 => ("PhaseTones$History", "states", "[LPhaseTones$Sound;", true)
  | 1 => ("PhaseTones$History", "recorded", "I", false)
  | _ => ("PhaseTones$History", "kept", "I", false)
def tyX0 : Nat → FieldType := fun k => match k with
  | 0 => .array (.object "PhaseTones$Sound")
  | 1 => .int
  | _ => .int
abbrev wsX00 : List Cond := u_ws RX0 TX0 3
theorem nmX0 : ∀ a, a < 3 → ∀ b, b < 3 → a ≠ b → (TX0 a).2.1 ≠ (TX0 b).2.1 := by decide +kernel
theorem tyX0_ok : ∀ k, k < 3 → parseFieldDescriptor (TX0 k).2.2.1 = some (tyX0 k) := by decide +kernel
abbrev cX0_init : ByteArray := prog_2_method_1_code
def yX0_init : MethodName := ⟨RX0, "<init>", "()V"⟩
abbrev cX0_keep : ByteArray := prog_2_method_2_code
def yX0_keep : MethodName := ⟨RX0, "keep", "(LPhaseTones$Sound;)V"⟩
abbrev cX0_bringBack : ByteArray := prog_2_method_3_code
def yX0_bringBack : MethodName := ⟨RX0, "bringBack", "(LPhaseTones$Sound;)V"⟩
def RX1 : String := "PhaseTones$Pad"
def TX1 : u_T := fun k => match k with
  | 0 => ("PhaseTones$Pad", "text", "[C", true)
  | 1 => ("PhaseTones$Pad", "length", "I", false)
  | 2 => ("PhaseTones$Pad", "at", "I", false)
  | 3 => ("PhaseTones$Pad", "order", "I", false)
  | 4 => ("PhaseTones$Pad", "wheel", "I", false)
  | 5 => ("PhaseTones$Pad", "number", "I", false)
  | _ => ("PhaseTones$Pad", "samples", "I", false)
def tyX1 : Nat → FieldType := fun k => match k with
  | 0 => .array .char
  | 1 => .int
  | 2 => .int
  | 3 => .int
  | 4 => .int
  | 5 => .int
  | _ => .int
abbrev wsX10 : List Cond := u_ws RX1 TX1 7
theorem nmX1 : ∀ a, a < 7 → ∀ b, b < 7 → a ≠ b → (TX1 a).2.1 ≠ (TX1 b).2.1 := by decide +kernel
theorem tyX1_ok : ∀ k, k < 7 → parseFieldDescriptor (TX1 k).2.2.1 = some (tyX1 k) := by decide +kernel
abbrev cX1_init : ByteArray := prog_3_method_1_code
def yX1_init : MethodName := ⟨RX1, "<init>", "()V"⟩
def RX2 : String := "PhaseTones$Slots"
def TX2 : u_T := fun k => match k with
  | 0 => ("PhaseTones$Slots", "sounds", "[LPhaseTones$Sound;", true)
  | _ => ("PhaseTones$Slots", "isSaved", "[Z", true)
def tyX2 : Nat → FieldType := fun k => match k with
  | 0 => .array (.object "PhaseTones$Sound")
  | _ => .array .boolean
abbrev wsX20 : List Cond := u_ws RX2 TX2 2
theorem nmX2 : ∀ a, a < 2 → ∀ b, b < 2 → a ≠ b → (TX2 a).2.1 ≠ (TX2 b).2.1 := by decide +kernel
theorem tyX2_ok : ∀ k, k < 2 → parseFieldDescriptor (TX2 k).2.2.1 = some (tyX2 k) := by decide +kernel
abbrev cX2_init : ByteArray := prog_4_method_1_code
def yX2_init : MethodName := ⟨RX2, "<init>", "()V"⟩
def RX3 : String := "PhaseTones$Sound"
def TX3 : u_T := fun k => match k with
  | 0 => ("PhaseTones$Sound", "limit", "I", false)
  | 1 => ("PhaseTones$Sound", "values", "[I", true)
  | 2 => ("PhaseTones$Sound", "wheels", "[LPhaseTones$Wheel;", true)
  | 3 => ("PhaseTones$Sound", "made", "I", false)
  | 4 => ("PhaseTones$Sound", "clipped", "I", false)
  | 5 => ("PhaseTones$Sound", "sum", "I", false)
  | 6 => ("PhaseTones$Sound", "rises", "I", false)
  | _ => ("PhaseTones$Sound", "latest", "[I", true)
def tyX3 : Nat → FieldType := fun k => match k with
  | 0 => .int
  | 1 => .array .int
  | 2 => .array (.object "PhaseTones$Wheel")
  | 3 => .int
  | 4 => .int
  | 5 => .int
  | 6 => .int
  | _ => .array .int
abbrev wsX30 : List Cond := u_ws RX3 TX3 8
theorem nmX3 : ∀ a, a < 8 → ∀ b, b < 8 → a ≠ b → (TX3 a).2.1 ≠ (TX3 b).2.1 := by decide +kernel
theorem tyX3_ok : ∀ k, k < 8 → parseFieldDescriptor (TX3 k).2.2.1 = some (tyX3 k) := by decide +kernel
abbrev cX3_init : ByteArray := prog_5_method_1_code
def yX3_init : MethodName := ⟨RX3, "<init>", "()V"⟩
abbrev cX3_takeOver : ByteArray := prog_5_method_2_code
def yX3_takeOver : MethodName := ⟨RX3, "takeOver", "(LPhaseTones$Sound;)V"⟩
abbrev cX3_valueGivenBy : ByteArray := prog_5_method_3_code
def yX3_valueGivenBy : MethodName := ⟨RX3, "valueGivenBy", "(LPhaseTones$Wheel;)I"⟩
abbrev cX3_sumOfOn : ByteArray := prog_5_method_4_code
def yX3_sumOfOn : MethodName := ⟨RX3, "sumOfOn", "()I"⟩
abbrev cX3_maskOfOn : ByteArray := prog_5_method_5_code
def yX3_maskOfOn : MethodName := ⟨RX3, "maskOfOn", "()I"⟩
abbrev cX3_samplesOfARoundOfAll : ByteArray := prog_5_method_6_code
def yX3_samplesOfARoundOfAll : MethodName := ⟨RX3, "samplesOfARoundOfAll", "()I"⟩
abbrev cX3_hasNoRoomFor : ByteArray := prog_5_method_7_code
def yX3_hasNoRoomFor : MethodName := ⟨RX3, "hasNoRoomFor", "(I)Z"⟩
abbrev cX3_makeSome : ByteArray := prog_5_method_8_code
def yX3_makeSome : MethodName := ⟨RX3, "makeSome", "(I)Z"⟩
abbrev cX3_makeOne : ByteArray := prog_5_method_9_code
def yX3_makeOne : MethodName := ⟨RX3, "makeOne", "()V"⟩
abbrev cX3_keepMixture : ByteArray := prog_5_method_10_code
def yX3_keepMixture : MethodName := ⟨RX3, "keepMixture", "(I)V"⟩
abbrev cX3_mixtureAgo : ByteArray := prog_5_method_11_code
def yX3_mixtureAgo : MethodName := ⟨RX3, "mixtureAgo", "(I)I"⟩
def RX4 : String := "PhaseTones$Wheel"
def TX4 : u_T := fun k => match k with
  | 0 => ("PhaseTones$Wheel", "phase", "I", false)
  | 1 => ("PhaseTones$Wheel", "step", "I", false)
  | 2 => ("PhaseTones$Wheel", "table", "I", false)
  | 3 => ("PhaseTones$Wheel", "volume", "I", false)
  | 4 => ("PhaseTones$Wheel", "isOn", "Z", false)
  | 5 => ("PhaseTones$Wheel", "sweeps", "I", false)
  | 6 => ("PhaseTones$Wheel", "ends", "[I", true)
  | 7 => ("PhaseTones$Wheel", "lengths", "[I", true)
  | 8 => ("PhaseTones$Wheel", "begin", "I", false)
  | _ => ("PhaseTones$Wheel", "gone", "I", false)
def tyX4 : Nat → FieldType := fun k => match k with
  | 0 => .int
  | 1 => .int
  | 2 => .int
  | 3 => .int
  | 4 => .boolean
  | 5 => .int
  | 6 => .array .int
  | 7 => .array .int
  | 8 => .int
  | _ => .int
abbrev wsX40 : List Cond := u_ws RX4 TX4 10
theorem nmX4 : ∀ a, a < 10 → ∀ b, b < 10 → a ≠ b → (TX4 a).2.1 ≠ (TX4 b).2.1 := by decide +kernel
theorem tyX4_ok : ∀ k, k < 10 → parseFieldDescriptor (TX4 k).2.2.1 = some (tyX4 k) := by decide +kernel
abbrev cX4_init : ByteArray := prog_6_method_1_code
def yX4_init : MethodName := ⟨RX4, "<init>", "()V"⟩
abbrev cX4_takeOver : ByteArray := prog_6_method_2_code
def yX4_takeOver : MethodName := ⟨RX4, "takeOver", "(LPhaseTones$Wheel;)V"⟩
abbrev cX4_changeStep : ByteArray := prog_6_method_3_code
def yX4_changeStep : MethodName := ⟨RX4, "changeStep", "(I)V"⟩
abbrev cX4_addSweep : ByteArray := prog_6_method_4_code
def yX4_addSweep : MethodName := ⟨RX4, "addSweep", "(II)Z"⟩
abbrev cX4_beginSweep : ByteArray := prog_6_method_5_code
def yX4_beginSweep : MethodName := ⟨RX4, "beginSweep", "()V"⟩
abbrev cX4_goOn : ByteArray := prog_6_method_6_code
def yX4_goOn : MethodName := ⟨RX4, "goOn", "()V"⟩
abbrev cX4_goOnSweeping : ByteArray := prog_6_method_7_code
def yX4_goOnSweeping : MethodName := ⟨RX4, "goOnSweeping", "()V"⟩
abbrev cX4_dropFirstSweep : ByteArray := prog_6_method_8_code
def yX4_dropFirstSweep : MethodName := ⟨RX4, "dropFirstSweep", "()V"⟩
abbrev cX4_image : ByteArray := prog_6_method_9_code
def yX4_image : MethodName := ⟨RX4, "image", "()I"⟩
abbrev cX4_samplesOfARound : ByteArray := prog_6_method_10_code
def yX4_samplesOfARound : MethodName := ⟨RX4, "samplesOfARound", "()I"⟩
abbrev cX4_samplesOfSweeps : ByteArray := prog_6_method_11_code
def yX4_samplesOfSweeps : MethodName := ⟨RX4, "samplesOfSweeps", "()I"⟩
abbrev cX4_lastStep : ByteArray := prog_6_method_12_code
def yX4_lastStep : MethodName := ⟨RX4, "lastStep", "()I"⟩
abbrev cX4_goRound : ByteArray := prog_6_method_13_code
def yX4_goRound : MethodName := ⟨RX4, "goRound", "()I"⟩
def RX5 : String := "PhaseTones"
def TX5 : u_T := fun k => match k with
  | 0 => ("PhaseTones", "now", "LPhaseTones$Sound;", true)
  | 1 => ("PhaseTones", "trial", "LPhaseTones$Sound;", true)
  | 2 => ("PhaseTones", "history", "LPhaseTones$History;", true)
  | 3 => ("PhaseTones", "slots", "LPhaseTones$Slots;", true)
  | _ => ("PhaseTones", "pad", "LPhaseTones$Pad;", true)
def tyX5 : Nat → FieldType := fun k => match k with
  | 0 => .object "PhaseTones$Sound"
  | 1 => .object "PhaseTones$Sound"
  | 2 => .object "PhaseTones$History"
  | 3 => .object "PhaseTones$Slots"
  | _ => .object "PhaseTones$Pad"
abbrev wsX50 : List Cond := u_ws RX5 TX5 5
theorem nmX5 : ∀ a, a < 5 → ∀ b, b < 5 → a ≠ b → (TX5 a).2.1 ≠ (TX5 b).2.1 := by decide +kernel
theorem tyX5_ok : ∀ k, k < 5 → parseFieldDescriptor (TX5 k).2.2.1 = some (tyX5 k) := by decide +kernel
abbrev cX5_init : ByteArray := prog_1_method_1_code
def yX5_init : MethodName := ⟨RX5, "<init>", "()V"⟩
abbrev cX5_clip : ByteArray := prog_1_method_2_code
def yX5_clip : MethodName := ⟨RX5, "clip", "(I)I"⟩
abbrev cX5_fill : ByteArray := prog_1_method_3_code
def yX5_fill : MethodName := ⟨RX5, "fill", "(III)I"⟩
abbrev cX5_step : ByteArray := prog_1_method_4_code
def yX5_step : MethodName := ⟨RX5, "step", "(II)I"⟩
abbrev cX5_table : ByteArray := prog_1_method_5_code
def yX5_table : MethodName := ⟨RX5, "table", "(II)I"⟩
abbrev cX5_volume : ByteArray := prog_1_method_6_code
def yX5_volume : MethodName := ⟨RX5, "volume", "(II)I"⟩
abbrev cX5_turn : ByteArray := prog_1_method_7_code
def yX5_turn : MethodName := ⟨RX5, "turn", "(IZ)I"⟩
abbrev cX5_phase : ByteArray := prog_1_method_8_code
def yX5_phase : MethodName := ⟨RX5, "phase", "(II)I"⟩
abbrev cX5_sweep : ByteArray := prog_1_method_9_code
def yX5_sweep : MethodName := ⟨RX5, "sweep", "(III)I"⟩
abbrev cX5_make : ByteArray := prog_1_method_10_code
def yX5_make : MethodName := ⟨RX5, "make", "(I)I"⟩
abbrev cX5_wheel : ByteArray := prog_1_method_12_code
def yX5_wheel : MethodName := ⟨RX5, "wheel", "(II)I"⟩
abbrev cX5_valueOf : ByteArray := prog_1_method_13_code
def yX5_valueOf : MethodName := ⟨RX5, "valueOf", "(II)I"⟩
abbrev cX5_sample : ByteArray := prog_1_method_14_code
def yX5_sample : MethodName := ⟨RX5, "sample", "(I)I"⟩
abbrev cX5_beat : ByteArray := prog_1_method_15_code
def yX5_beat : MethodName := ⟨RX5, "beat", "(II)I"⟩
abbrev cX5_count : ByteArray := prog_1_method_16_code
def yX5_count : MethodName := ⟨RX5, "count", "(I)I"⟩
abbrev cX5_ifMade : ByteArray := prog_1_method_17_code
def yX5_ifMade : MethodName := ⟨RX5, "ifMade", "(II)I"⟩
abbrev cX5_untilClip : ByteArray := prog_1_method_18_code
def yX5_untilClip : MethodName := ⟨RX5, "untilClip", "()I"⟩
abbrev cX5_untilRound : ByteArray := prog_1_method_20_code
def yX5_untilRound : MethodName := ⟨RX5, "untilRound", "(I)I"⟩
abbrev cX5_undo : ByteArray := prog_1_method_24_code
def yX5_undo : MethodName := ⟨RX5, "undo", "()I"⟩
abbrev cX5_save : ByteArray := prog_1_method_25_code
def yX5_save : MethodName := ⟨RX5, "save", "(I)I"⟩
abbrev cX5_restore : ByteArray := prog_1_method_26_code
def yX5_restore : MethodName := ⟨RX5, "restore", "(I)I"⟩
abbrev cX5_isOutside : ByteArray := prog_1_method_27_code
def yX5_isOutside : MethodName := ⟨RX5, "isOutside", "(III)Z"⟩
abbrev cX5_isNoWheel : ByteArray := prog_1_method_28_code
def yX5_isNoWheel : MethodName := ⟨RX5, "isNoWheel", "(I)Z"⟩
abbrev cX5_isNoTable : ByteArray := prog_1_method_29_code
def yX5_isNoTable : MethodName := ⟨RX5, "isNoTable", "(I)Z"⟩
abbrev cX5_isNoPlace : ByteArray := prog_1_method_30_code
def yX5_isNoPlace : MethodName := ⟨RX5, "isNoPlace", "(I)Z"⟩
def RX6 : String := "PhaseTonesModel"
def TX6 : u_T := fun k => match k with
  | _ => ("", "", "", false)
def tyX6 : Nat → FieldType := fun k => match k with
  | _ => .int
abbrev wsX60 : List Cond := u_ws RX6 TX6 0
theorem nmX6 : ∀ a, a < 0 → ∀ b, b < 0 → a ≠ b → (TX6 a).2.1 ≠ (TX6 b).2.1 := by decide +kernel
theorem tyX6_ok : ∀ k, k < 0 → parseFieldDescriptor (TX6 k).2.2.1 = some (tyX6 k) := by decide +kernel
def RJ6 : String := "java/lang/Integer"
def TJ6 : u_T := fun k => match k with
  | _ => ("", "", "", false)
def tyJ6 : Nat → FieldType := fun k => match k with
  | _ => .int
abbrev wsJ60 : List Cond := u_ws RJ6 TJ6 0
theorem nmJ6 : ∀ a, a < 0 → ∀ b, b < 0 → a ≠ b → (TJ6 a).2.1 ≠ (TJ6 b).2.1 := by decide +kernel
theorem tyJ6_ok : ∀ k, k < 0 → parseFieldDescriptor (TJ6 k).2.2.1 = some (tyJ6 k) := by decide +kernel
abbrev cJ6_bitCount_0f7a4 : ByteArray := prog_9_method_49_code
def yJ6_bitCount_0f7a4 : MethodName := ⟨RJ6, "bitCount", "(I)I"⟩
def RJ9 : String := "java/lang/Math"
def TJ9 : u_T := fun k => match k with
  | _ => ("", "", "", false)
def tyJ9 : Nat → FieldType := fun k => match k with
  | _ => .int
abbrev wsJ90 : List Cond := u_ws RJ9 TJ9 0
theorem nmJ9 : ∀ a, a < 0 → ∀ b, b < 0 → a ≠ b → (TJ9 a).2.1 ≠ (TJ9 b).2.1 := by decide +kernel
theorem tyJ9_ok : ∀ k, k < 0 → parseFieldDescriptor (TJ9 k).2.2.1 = some (tyJ9 k) := by decide +kernel
abbrev cJ9_floorMod_7cf53 : ByteArray := prog_10_method_50_code
def yJ9_floorMod_7cf53 : MethodName := ⟨RJ9, "floorMod", "(II)I"⟩
abbrev cJ9_abs_0f7a4 : ByteArray := prog_10_method_59_code
def yJ9_abs_0f7a4 : MethodName := ⟨RJ9, "abs", "(I)I"⟩
abbrev cJ9_max_7cf53 : ByteArray := prog_10_method_65_code
def yJ9_max_7cf53 : MethodName := ⟨RJ9, "max", "(II)I"⟩
abbrev cJ9_min_7cf53 : ByteArray := prog_10_method_69_code
def yJ9_min_7cf53 : MethodName := ⟨RJ9, "min", "(II)I"⟩
def RJ10 : String := "java/lang/System"
def TJ10 : u_T := fun k => match k with
  | _ => ("", "", "", false)
def tyJ10 : Nat → FieldType := fun k => match k with
  | _ => .int
abbrev wsJ100 : List Cond := u_ws RJ10 TJ10 0
theorem nmJ10 : ∀ a, a < 0 → ∀ b, b < 0 → a ≠ b → (TJ10 a).2.1 ≠ (TJ10 b).2.1 := by decide +kernel
theorem tyJ10_ok : ∀ k, k < 0 → parseFieldDescriptor (TJ10 k).2.2.1 = some (tyJ10 k) := by decide +kernel
def RL : String := "PhaseTonesLaw"
abbrev cL_cell : ByteArray := method_2_code
def yL_cell : MethodName := ⟨RL, "cell", "([II)I"⟩
abbrev cL_together : ByteArray := method_3_code
def yL_together : MethodName := ⟨RL, "together", "(II)I"⟩
abbrev cL_areWheels : ByteArray := method_4_code
def yL_areWheels : MethodName := ⟨RL, "areWheels", "(LPhaseTones;)Z"⟩
abbrev cL_areSamples : ByteArray := method_5_code
def yL_areSamples : MethodName := ⟨RL, "areSamples", "(LPhaseTones;I)Z"⟩
abbrev cL_acts : ByteArray := method_6_code
def yL_acts : MethodName := ⟨RL, "acts", "(LPhaseTones;I)Z"⟩
abbrev cL_isRound : ByteArray := method_7_code
def yL_isRound : MethodName := ⟨RL, "isRound", "(LPhaseTones;I)Z"⟩
def yL_law : MethodName := ⟨RL, "law", "([I)Z"⟩
def wsX4_init : List Cond := .code yX4_init cX4_init 1 none :: ([.methodLink RX4 3 objectInit, .instanceMethod objectInit, .code objectInit ⟨#[0xb1]⟩ 1 none, .fieldLink RX4 9 "PhaseTones$Wheel" "step" "I", .fieldLink RX4 15 "PhaseTones$Wheel" "volume" "I", .arrayClass .int, .fieldLink RX4 18 "PhaseTones$Wheel" "ends" "[I", .fieldLink RX4 22 "PhaseTones$Wheel" "lengths" "[I"] ++ wsX40)
def wsX3_init : List Cond := .code yX3_init cX3_init 3 none :: ([.methodLink RX3 3 objectInit, .instanceMethod objectInit, .code objectInit ⟨#[0xb1]⟩ 1 none, .fieldLink RX3 9 "PhaseTones$Sound" "limit" "I", .arrayClass .int, .fieldLink RX3 15 "PhaseTones$Sound" "values" "[I", .classLink RX3 19 RX4, .fieldLink RX3 21 "PhaseTones$Sound" "wheels" "[LPhaseTones$Wheel;", .fieldLink RX3 25 "PhaseTones$Sound" "latest" "[I", .instantiable RX4 10, .initialized RX4, .fieldLink RX3 29 "PhaseTones$Wheel" "isOn" "Z", .instanceMethod yX4_init, .code yX4_init cX4_init 1 none, .methodLink RX4 3 objectInit, .fieldLink RX4 9 "PhaseTones$Wheel" "step" "I", .fieldLink RX4 15 "PhaseTones$Wheel" "volume" "I", .fieldLink RX4 18 "PhaseTones$Wheel" "ends" "[I", .fieldLink RX4 22 "PhaseTones$Wheel" "lengths" "[I"] ++ wsX30 ++ wsX40)
def wsX0_init_r1 : List Cond := [Cond.methodLink RX0 3 objectInit, Cond.instanceMethod objectInit, Cond.code objectInit ⟨#[0xb1]⟩ 1 none, Cond.classLink RX0 9 RX3, Cond.fieldLink RX0 11 "PhaseTones$History" "states" "[LPhaseTones$Sound;", Cond.instantiable RX3 8, Cond.initialized RX3, Cond.methodLink RX0 17 yX3_init, Cond.instanceMethod yX3_init, Cond.code yX3_init cX3_init 3 none, Cond.methodLink RX3 3 objectInit, Cond.fieldLink RX3 9 "PhaseTones$Sound" "limit" "I", Cond.arrayClass .int, Cond.fieldLink RX3 15 "PhaseTones$Sound" "values" "[I", Cond.classLink RX3 19 RX4, Cond.fieldLink RX3 21 "PhaseTones$Sound" "wheels" "[LPhaseTones$Wheel;", Cond.fieldLink RX3 25 "PhaseTones$Sound" "latest" "[I", Cond.instantiable RX4 10, Cond.initialized RX4, Cond.fieldLink RX3 29 "PhaseTones$Wheel" "isOn" "Z", Cond.instanceMethod yX4_init, Cond.code yX4_init cX4_init 1 none, Cond.methodLink RX4 3 objectInit, Cond.fieldLink RX4 9 "PhaseTones$Wheel" "step" "I"]
def wsX0_init_r2 : List Cond := [Cond.fieldLink RX4 15 "PhaseTones$Wheel" "volume" "I", Cond.fieldLink RX4 18 "PhaseTones$Wheel" "ends" "[I", Cond.fieldLink RX4 22 "PhaseTones$Wheel" "lengths" "[I"]
def wsX0_init : List Cond := .code yX0_init cX0_init 2 none :: ((wsX0_init_r1 ++ wsX0_init_r2) ++ wsX00 ++ wsX30 ++ wsX40)
def wsJ9_floorMod_7cf53 : List Cond := .code yJ9_floorMod_7cf53 cJ9_floorMod_7cf53 3 (some .int) :: ([])
def wsX4_takeOver : List Cond := .code yX4_takeOver cX4_takeOver 2 none :: ([.fieldLink RX4 25 "PhaseTones$Wheel" "phase" "I", .fieldLink RX4 9 "PhaseTones$Wheel" "step" "I", .fieldLink RX4 28 "PhaseTones$Wheel" "table" "I", .fieldLink RX4 15 "PhaseTones$Wheel" "volume" "I", .fieldLink RX4 31 "PhaseTones$Wheel" "isOn" "Z", .fieldLink RX4 35 "PhaseTones$Wheel" "sweeps" "I", .fieldLink RX4 18 "PhaseTones$Wheel" "ends" "[I", .methodLink RX4 38 arraycopyName, .native arraycopyName, .static arraycopyName, .initialized "java/lang/System", .fieldLink RX4 22 "PhaseTones$Wheel" "lengths" "[I", .fieldLink RX4 44 "PhaseTones$Wheel" "begin" "I", .fieldLink RX4 47 "PhaseTones$Wheel" "gone" "I"] ++ wsX40)
def wsX3_takeOver_r1 : List Cond := [Cond.fieldLink RX3 9 "PhaseTones$Sound" "limit" "I", Cond.fieldLink RX3 15 "PhaseTones$Sound" "values" "[I", Cond.methodLink RX3 33 arraycopyName, Cond.native arraycopyName, Cond.static arraycopyName, Cond.initialized "java/lang/System", Cond.fieldLink RX3 21 "PhaseTones$Sound" "wheels" "[LPhaseTones$Wheel;", Cond.fieldLink RX3 43 "PhaseTones$Sound" "made" "I", Cond.fieldLink RX3 46 "PhaseTones$Sound" "clipped" "I", Cond.fieldLink RX3 49 "PhaseTones$Sound" "sum" "I", Cond.fieldLink RX3 52 "PhaseTones$Sound" "rises" "I", Cond.fieldLink RX3 25 "PhaseTones$Sound" "latest" "[I", Cond.methodLink RX3 39 yX4_takeOver, Cond.instanceMethod yX4_takeOver, Cond.selects RX4 yX4_takeOver yX4_takeOver, Cond.initialized RX4, Cond.code yX4_takeOver cX4_takeOver 2 none, Cond.fieldLink RX4 25 "PhaseTones$Wheel" "phase" "I", Cond.fieldLink RX4 9 "PhaseTones$Wheel" "step" "I", Cond.fieldLink RX4 28 "PhaseTones$Wheel" "table" "I", Cond.fieldLink RX4 15 "PhaseTones$Wheel" "volume" "I", Cond.fieldLink RX4 31 "PhaseTones$Wheel" "isOn" "Z", Cond.fieldLink RX4 35 "PhaseTones$Wheel" "sweeps" "I", Cond.fieldLink RX4 18 "PhaseTones$Wheel" "ends" "[I"]
def wsX3_takeOver_r2 : List Cond := [Cond.methodLink RX4 38 arraycopyName, Cond.fieldLink RX4 22 "PhaseTones$Wheel" "lengths" "[I", Cond.fieldLink RX4 44 "PhaseTones$Wheel" "begin" "I", Cond.fieldLink RX4 47 "PhaseTones$Wheel" "gone" "I"]
def wsX3_takeOver : List Cond := .code yX3_takeOver cX3_takeOver 3 none :: ((wsX3_takeOver_r1 ++ wsX3_takeOver_r2) ++ wsX30 ++ wsX40)
def wsX0_keep_r1 : List Cond := [Cond.fieldLink RX0 11 "PhaseTones$History" "states" "[LPhaseTones$Sound;", Cond.fieldLink RX0 18 "PhaseTones$History" "recorded" "I", Cond.fieldLink RX0 32 "PhaseTones$History" "kept" "I", Cond.methodLink RX0 35 Lib.Math.min.name, Cond.static Lib.Math.min.name, Cond.initialized "java/lang/Math", Cond.code Lib.Math.min.name Lib.Math.min.code 2 (some .int), Cond.methodLink RX0 22 yJ9_floorMod_7cf53, Cond.static yJ9_floorMod_7cf53, Cond.initialized RJ9, Cond.code yJ9_floorMod_7cf53 cJ9_floorMod_7cf53 3 (some .int), Cond.methodLink RX0 28 yX3_takeOver, Cond.instanceMethod yX3_takeOver, Cond.selects RX3 yX3_takeOver yX3_takeOver, Cond.initialized RX3, Cond.code yX3_takeOver cX3_takeOver 3 none, Cond.fieldLink RX3 9 "PhaseTones$Sound" "limit" "I", Cond.fieldLink RX3 15 "PhaseTones$Sound" "values" "[I", Cond.methodLink RX3 33 arraycopyName, Cond.native arraycopyName, Cond.static arraycopyName, Cond.initialized "java/lang/System", Cond.fieldLink RX3 21 "PhaseTones$Sound" "wheels" "[LPhaseTones$Wheel;", Cond.fieldLink RX3 43 "PhaseTones$Sound" "made" "I"]
def wsX0_keep_r2 : List Cond := [Cond.fieldLink RX3 46 "PhaseTones$Sound" "clipped" "I", Cond.fieldLink RX3 49 "PhaseTones$Sound" "sum" "I", Cond.fieldLink RX3 52 "PhaseTones$Sound" "rises" "I", Cond.fieldLink RX3 25 "PhaseTones$Sound" "latest" "[I", Cond.methodLink RX3 39 yX4_takeOver, Cond.instanceMethod yX4_takeOver, Cond.selects RX4 yX4_takeOver yX4_takeOver, Cond.initialized RX4, Cond.code yX4_takeOver cX4_takeOver 2 none, Cond.fieldLink RX4 25 "PhaseTones$Wheel" "phase" "I", Cond.fieldLink RX4 9 "PhaseTones$Wheel" "step" "I", Cond.fieldLink RX4 28 "PhaseTones$Wheel" "table" "I", Cond.fieldLink RX4 15 "PhaseTones$Wheel" "volume" "I", Cond.fieldLink RX4 31 "PhaseTones$Wheel" "isOn" "Z", Cond.fieldLink RX4 35 "PhaseTones$Wheel" "sweeps" "I", Cond.fieldLink RX4 18 "PhaseTones$Wheel" "ends" "[I", Cond.methodLink RX4 38 arraycopyName, Cond.fieldLink RX4 22 "PhaseTones$Wheel" "lengths" "[I", Cond.fieldLink RX4 44 "PhaseTones$Wheel" "begin" "I", Cond.fieldLink RX4 47 "PhaseTones$Wheel" "gone" "I"]
def wsX0_keep : List Cond := .code yX0_keep cX0_keep 2 none :: ((wsX0_keep_r1 ++ wsX0_keep_r2) ++ wsX00 ++ wsX30 ++ wsX40)
def wsX0_bringBack_r1 : List Cond := [Cond.fieldLink RX0 18 "PhaseTones$History" "recorded" "I", Cond.fieldLink RX0 32 "PhaseTones$History" "kept" "I", Cond.methodLink RX0 38 Lib.Math.max.name, Cond.static Lib.Math.max.name, Cond.initialized "java/lang/Math", Cond.code Lib.Math.max.name Lib.Math.max.code 2 (some .int), Cond.fieldLink RX0 11 "PhaseTones$History" "states" "[LPhaseTones$Sound;", Cond.methodLink RX0 22 yJ9_floorMod_7cf53, Cond.static yJ9_floorMod_7cf53, Cond.initialized RJ9, Cond.code yJ9_floorMod_7cf53 cJ9_floorMod_7cf53 3 (some .int), Cond.methodLink RX0 28 yX3_takeOver, Cond.instanceMethod yX3_takeOver, Cond.selects RX3 yX3_takeOver yX3_takeOver, Cond.initialized RX3, Cond.code yX3_takeOver cX3_takeOver 3 none, Cond.fieldLink RX3 9 "PhaseTones$Sound" "limit" "I", Cond.fieldLink RX3 15 "PhaseTones$Sound" "values" "[I", Cond.methodLink RX3 33 arraycopyName, Cond.native arraycopyName, Cond.static arraycopyName, Cond.initialized "java/lang/System", Cond.fieldLink RX3 21 "PhaseTones$Sound" "wheels" "[LPhaseTones$Wheel;", Cond.fieldLink RX3 43 "PhaseTones$Sound" "made" "I"]
def wsX0_bringBack_r2 : List Cond := [Cond.fieldLink RX3 46 "PhaseTones$Sound" "clipped" "I", Cond.fieldLink RX3 49 "PhaseTones$Sound" "sum" "I", Cond.fieldLink RX3 52 "PhaseTones$Sound" "rises" "I", Cond.fieldLink RX3 25 "PhaseTones$Sound" "latest" "[I", Cond.methodLink RX3 39 yX4_takeOver, Cond.instanceMethod yX4_takeOver, Cond.selects RX4 yX4_takeOver yX4_takeOver, Cond.initialized RX4, Cond.code yX4_takeOver cX4_takeOver 2 none, Cond.fieldLink RX4 25 "PhaseTones$Wheel" "phase" "I", Cond.fieldLink RX4 9 "PhaseTones$Wheel" "step" "I", Cond.fieldLink RX4 28 "PhaseTones$Wheel" "table" "I", Cond.fieldLink RX4 15 "PhaseTones$Wheel" "volume" "I", Cond.fieldLink RX4 31 "PhaseTones$Wheel" "isOn" "Z", Cond.fieldLink RX4 35 "PhaseTones$Wheel" "sweeps" "I", Cond.fieldLink RX4 18 "PhaseTones$Wheel" "ends" "[I", Cond.methodLink RX4 38 arraycopyName, Cond.fieldLink RX4 22 "PhaseTones$Wheel" "lengths" "[I", Cond.fieldLink RX4 44 "PhaseTones$Wheel" "begin" "I", Cond.fieldLink RX4 47 "PhaseTones$Wheel" "gone" "I"]
def wsX0_bringBack : List Cond := .code yX0_bringBack cX0_bringBack 2 none :: ((wsX0_bringBack_r1 ++ wsX0_bringBack_r2) ++ wsX00 ++ wsX30 ++ wsX40)
def wsX1_init : List Cond := .code yX1_init cX1_init 1 none :: ([.methodLink RX1 3 objectInit, .instanceMethod objectInit, .code objectInit ⟨#[0xb1]⟩ 1 none, .arrayClass .char, .fieldLink RX1 9 "PhaseTones$Pad" "text" "[C"] ++ wsX10)
def wsX2_init_r1 : List Cond := [Cond.methodLink RX2 3 objectInit, Cond.instanceMethod objectInit, Cond.code objectInit ⟨#[0xb1]⟩ 1 none, Cond.classLink RX2 9 RX3, Cond.fieldLink RX2 11 "PhaseTones$Slots" "sounds" "[LPhaseTones$Sound;", Cond.arrayClass .boolean, Cond.fieldLink RX2 17 "PhaseTones$Slots" "isSaved" "[Z", Cond.instantiable RX3 8, Cond.initialized RX3, Cond.methodLink RX2 21 yX3_init, Cond.instanceMethod yX3_init, Cond.code yX3_init cX3_init 3 none, Cond.methodLink RX3 3 objectInit, Cond.fieldLink RX3 9 "PhaseTones$Sound" "limit" "I", Cond.arrayClass .int, Cond.fieldLink RX3 15 "PhaseTones$Sound" "values" "[I", Cond.classLink RX3 19 RX4, Cond.fieldLink RX3 21 "PhaseTones$Sound" "wheels" "[LPhaseTones$Wheel;", Cond.fieldLink RX3 25 "PhaseTones$Sound" "latest" "[I", Cond.instantiable RX4 10, Cond.initialized RX4, Cond.fieldLink RX3 29 "PhaseTones$Wheel" "isOn" "Z", Cond.instanceMethod yX4_init, Cond.code yX4_init cX4_init 1 none]
def wsX2_init_r2 : List Cond := [Cond.methodLink RX4 3 objectInit, Cond.fieldLink RX4 9 "PhaseTones$Wheel" "step" "I", Cond.fieldLink RX4 15 "PhaseTones$Wheel" "volume" "I", Cond.fieldLink RX4 18 "PhaseTones$Wheel" "ends" "[I", Cond.fieldLink RX4 22 "PhaseTones$Wheel" "lengths" "[I"]
def wsX2_init : List Cond := .code yX2_init cX2_init 2 none :: ((wsX2_init_r1 ++ wsX2_init_r2) ++ wsX20 ++ wsX30 ++ wsX40)
def wsX3_valueGivenBy : List Cond := .code yX3_valueGivenBy cX3_valueGivenBy 3 (some .int) :: ([.fieldLink RX3 55 "PhaseTones$Wheel" "table" "I", .fieldLink RX3 58 "PhaseTones$Wheel" "phase" "I", .fieldLink RX3 15 "PhaseTones$Sound" "values" "[I", .fieldLink RX3 61 "PhaseTones$Wheel" "volume" "I"] ++ wsX40 ++ wsX30)
def wsX3_sumOfOn : List Cond := .code yX3_sumOfOn cX3_sumOfOn 3 (some .int) :: ([.fieldLink RX3 21 "PhaseTones$Sound" "wheels" "[LPhaseTones$Wheel;", .fieldLink RX3 29 "PhaseTones$Wheel" "isOn" "Z", .methodLink RX3 64 yX3_valueGivenBy, .instanceMethod yX3_valueGivenBy, .selects RX3 yX3_valueGivenBy yX3_valueGivenBy, .initialized RX3, .code yX3_valueGivenBy cX3_valueGivenBy 3 (some .int), .fieldLink RX3 55 "PhaseTones$Wheel" "table" "I", .fieldLink RX3 58 "PhaseTones$Wheel" "phase" "I", .fieldLink RX3 15 "PhaseTones$Sound" "values" "[I", .fieldLink RX3 61 "PhaseTones$Wheel" "volume" "I"] ++ wsX30 ++ wsX40)
def wsX3_maskOfOn : List Cond := .code yX3_maskOfOn cX3_maskOfOn 3 (some .int) :: ([.fieldLink RX3 21 "PhaseTones$Sound" "wheels" "[LPhaseTones$Wheel;", .fieldLink RX3 29 "PhaseTones$Wheel" "isOn" "Z"] ++ wsX30 ++ wsX40)
def wsX4_samplesOfARound : List Cond := .code yX4_samplesOfARound cX4_samplesOfARound 2 (some .int) :: ([.fieldLink RX4 9 "PhaseTones$Wheel" "step" "I", .constant RX4 53 (65536)] ++ wsX40)
def wsX3_samplesOfARoundOfAll : List Cond := .code yX3_samplesOfARoundOfAll cX3_samplesOfARoundOfAll 3 (some .int) :: ([.fieldLink RX3 21 "PhaseTones$Sound" "wheels" "[LPhaseTones$Wheel;", .fieldLink RX3 29 "PhaseTones$Wheel" "isOn" "Z", .methodLink RX3 72 Lib.Math.max.name, .static Lib.Math.max.name, .initialized "java/lang/Math", .code Lib.Math.max.name Lib.Math.max.code 2 (some .int), .methodLink RX3 68 yX4_samplesOfARound, .instanceMethod yX4_samplesOfARound, .selects RX4 yX4_samplesOfARound yX4_samplesOfARound, .initialized RX4, .code yX4_samplesOfARound cX4_samplesOfARound 2 (some .int), .fieldLink RX4 9 "PhaseTones$Wheel" "step" "I", .constant RX4 53 (65536)] ++ wsX30 ++ wsX40)
def wsX3_hasNoRoomFor : List Cond := .code yX3_hasNoRoomFor cX3_hasNoRoomFor 2 (some .boolean) :: ([.constant RX3 78 (999999), .fieldLink RX3 43 "PhaseTones$Sound" "made" "I"] ++ wsX30)
def wsX3_mixtureAgo : List Cond := .code yX3_mixtureAgo cX3_mixtureAgo 2 (some .int) :: ([.fieldLink RX3 25 "PhaseTones$Sound" "latest" "[I", .fieldLink RX3 43 "PhaseTones$Sound" "made" "I", .methodLink RX3 104 yJ9_floorMod_7cf53, .static yJ9_floorMod_7cf53, .initialized RJ9, .code yJ9_floorMod_7cf53 cJ9_floorMod_7cf53 3 (some .int)] ++ wsX30)
def wsX3_keepMixture : List Cond := .code yX3_keepMixture cX3_keepMixture 2 none :: ([.fieldLink RX3 43 "PhaseTones$Sound" "made" "I", .fieldLink RX3 52 "PhaseTones$Sound" "rises" "I", .fieldLink RX3 49 "PhaseTones$Sound" "sum" "I", .constant RX3 103 (1000003), .fieldLink RX3 25 "PhaseTones$Sound" "latest" "[I", .methodLink RX3 99 yX3_mixtureAgo, .instanceMethod yX3_mixtureAgo, .selects RX3 yX3_mixtureAgo yX3_mixtureAgo, .initialized RX3, .code yX3_mixtureAgo cX3_mixtureAgo 2 (some .int), .methodLink RX3 104 yJ9_floorMod_7cf53, .static yJ9_floorMod_7cf53, .initialized RJ9, .code yJ9_floorMod_7cf53 cJ9_floorMod_7cf53 3 (some .int)] ++ wsX30)
def wsX4_dropFirstSweep : List Cond := .code yX4_dropFirstSweep cX4_dropFirstSweep 2 none :: ([.fieldLink RX4 35 "PhaseTones$Wheel" "sweeps" "I", .fieldLink RX4 18 "PhaseTones$Wheel" "ends" "[I", .fieldLink RX4 22 "PhaseTones$Wheel" "lengths" "[I"] ++ wsX40)
def wsX4_beginSweep : List Cond := .code yX4_beginSweep cX4_beginSweep 1 none :: ([.fieldLink RX4 9 "PhaseTones$Wheel" "step" "I", .fieldLink RX4 44 "PhaseTones$Wheel" "begin" "I", .fieldLink RX4 47 "PhaseTones$Wheel" "gone" "I"] ++ wsX40)
def wsX4_goOnSweeping : List Cond := .code yX4_goOnSweeping cX4_goOnSweeping 2 none :: ([.fieldLink RX4 22 "PhaseTones$Wheel" "lengths" "[I", .fieldLink RX4 47 "PhaseTones$Wheel" "gone" "I", .fieldLink RX4 44 "PhaseTones$Wheel" "begin" "I", .fieldLink RX4 18 "PhaseTones$Wheel" "ends" "[I", .fieldLink RX4 9 "PhaseTones$Wheel" "step" "I", .methodLink RX4 57 yX4_dropFirstSweep, .instanceMethod yX4_dropFirstSweep, .selects RX4 yX4_dropFirstSweep yX4_dropFirstSweep, .initialized RX4, .code yX4_dropFirstSweep cX4_dropFirstSweep 2 none, .fieldLink RX4 35 "PhaseTones$Wheel" "sweeps" "I", .methodLink RX4 50 yX4_beginSweep, .instanceMethod yX4_beginSweep, .selects RX4 yX4_beginSweep yX4_beginSweep, .code yX4_beginSweep cX4_beginSweep 1 none] ++ wsX40)
def wsX4_goOn : List Cond := .code yX4_goOn cX4_goOn 1 none :: ([.fieldLink RX4 25 "PhaseTones$Wheel" "phase" "I", .fieldLink RX4 9 "PhaseTones$Wheel" "step" "I", .constant RX4 53 (65536), .fieldLink RX4 35 "PhaseTones$Wheel" "sweeps" "I", .methodLink RX4 54 yX4_goOnSweeping, .instanceMethod yX4_goOnSweeping, .selects RX4 yX4_goOnSweeping yX4_goOnSweeping, .initialized RX4, .code yX4_goOnSweeping cX4_goOnSweeping 2 none, .fieldLink RX4 22 "PhaseTones$Wheel" "lengths" "[I", .fieldLink RX4 47 "PhaseTones$Wheel" "gone" "I", .fieldLink RX4 44 "PhaseTones$Wheel" "begin" "I", .fieldLink RX4 18 "PhaseTones$Wheel" "ends" "[I", .methodLink RX4 57 yX4_dropFirstSweep, .instanceMethod yX4_dropFirstSweep, .selects RX4 yX4_dropFirstSweep yX4_dropFirstSweep, .code yX4_dropFirstSweep cX4_dropFirstSweep 2 none, .methodLink RX4 50 yX4_beginSweep, .instanceMethod yX4_beginSweep, .selects RX4 yX4_beginSweep yX4_beginSweep, .code yX4_beginSweep cX4_beginSweep 1 none] ++ wsX40)
def wsX3_makeOne_r1 : List Cond := [Cond.fieldLink RX3 9 "PhaseTones$Sound" "limit" "I", Cond.fieldLink RX3 46 "PhaseTones$Sound" "clipped" "I", Cond.methodLink RX3 89 Lib.Math.min.name, Cond.static Lib.Math.min.name, Cond.initialized "java/lang/Math", Cond.code Lib.Math.min.name Lib.Math.min.code 2 (some .int), Cond.fieldLink RX3 21 "PhaseTones$Sound" "wheels" "[LPhaseTones$Wheel;", Cond.fieldLink RX3 29 "PhaseTones$Wheel" "isOn" "Z", Cond.methodLink RX3 86 yX3_sumOfOn, Cond.instanceMethod yX3_sumOfOn, Cond.selects RX3 yX3_sumOfOn yX3_sumOfOn, Cond.initialized RX3, Cond.code yX3_sumOfOn cX3_sumOfOn 3 (some .int), Cond.methodLink RX3 64 yX3_valueGivenBy, Cond.instanceMethod yX3_valueGivenBy, Cond.selects RX3 yX3_valueGivenBy yX3_valueGivenBy, Cond.code yX3_valueGivenBy cX3_valueGivenBy 3 (some .int), Cond.fieldLink RX3 55 "PhaseTones$Wheel" "table" "I", Cond.fieldLink RX3 58 "PhaseTones$Wheel" "phase" "I", Cond.fieldLink RX3 15 "PhaseTones$Sound" "values" "[I", Cond.fieldLink RX3 61 "PhaseTones$Wheel" "volume" "I", Cond.methodLink RX3 92 yX3_keepMixture, Cond.instanceMethod yX3_keepMixture, Cond.selects RX3 yX3_keepMixture yX3_keepMixture]
def wsX3_makeOne_r2 : List Cond := [Cond.code yX3_keepMixture cX3_keepMixture 2 none, Cond.fieldLink RX3 43 "PhaseTones$Sound" "made" "I", Cond.fieldLink RX3 52 "PhaseTones$Sound" "rises" "I", Cond.fieldLink RX3 49 "PhaseTones$Sound" "sum" "I", Cond.constant RX3 103 (1000003), Cond.fieldLink RX3 25 "PhaseTones$Sound" "latest" "[I", Cond.methodLink RX3 99 yX3_mixtureAgo, Cond.instanceMethod yX3_mixtureAgo, Cond.selects RX3 yX3_mixtureAgo yX3_mixtureAgo, Cond.code yX3_mixtureAgo cX3_mixtureAgo 2 (some .int), Cond.methodLink RX3 104 yJ9_floorMod_7cf53, Cond.static yJ9_floorMod_7cf53, Cond.initialized RJ9, Cond.code yJ9_floorMod_7cf53 cJ9_floorMod_7cf53 3 (some .int), Cond.methodLink RX3 96 yX4_goOn, Cond.instanceMethod yX4_goOn, Cond.selects RX4 yX4_goOn yX4_goOn, Cond.initialized RX4, Cond.code yX4_goOn cX4_goOn 1 none, Cond.fieldLink RX4 25 "PhaseTones$Wheel" "phase" "I", Cond.fieldLink RX4 9 "PhaseTones$Wheel" "step" "I", Cond.constant RX4 53 (65536), Cond.fieldLink RX4 35 "PhaseTones$Wheel" "sweeps" "I", Cond.methodLink RX4 54 yX4_goOnSweeping]
def wsX3_makeOne_r3 : List Cond := [Cond.instanceMethod yX4_goOnSweeping, Cond.selects RX4 yX4_goOnSweeping yX4_goOnSweeping, Cond.code yX4_goOnSweeping cX4_goOnSweeping 2 none, Cond.fieldLink RX4 22 "PhaseTones$Wheel" "lengths" "[I", Cond.fieldLink RX4 47 "PhaseTones$Wheel" "gone" "I", Cond.fieldLink RX4 44 "PhaseTones$Wheel" "begin" "I", Cond.fieldLink RX4 18 "PhaseTones$Wheel" "ends" "[I", Cond.methodLink RX4 57 yX4_dropFirstSweep, Cond.instanceMethod yX4_dropFirstSweep, Cond.selects RX4 yX4_dropFirstSweep yX4_dropFirstSweep, Cond.code yX4_dropFirstSweep cX4_dropFirstSweep 2 none, Cond.methodLink RX4 50 yX4_beginSweep, Cond.instanceMethod yX4_beginSweep, Cond.selects RX4 yX4_beginSweep yX4_beginSweep, Cond.code yX4_beginSweep cX4_beginSweep 1 none]
def wsX3_makeOne : List Cond := .code yX3_makeOne cX3_makeOne 3 none :: ((wsX3_makeOne_r1 ++ (wsX3_makeOne_r2 ++ wsX3_makeOne_r3)) ++ wsX30 ++ wsX40)
def wsX3_makeSome_r1 : List Cond := [Cond.methodLink RX3 79 yX3_hasNoRoomFor, Cond.instanceMethod yX3_hasNoRoomFor, Cond.selects RX3 yX3_hasNoRoomFor yX3_hasNoRoomFor, Cond.initialized RX3, Cond.code yX3_hasNoRoomFor cX3_hasNoRoomFor 2 (some .boolean), Cond.constant RX3 78 (999999), Cond.fieldLink RX3 43 "PhaseTones$Sound" "made" "I", Cond.methodLink RX3 83 yX3_makeOne, Cond.instanceMethod yX3_makeOne, Cond.selects RX3 yX3_makeOne yX3_makeOne, Cond.code yX3_makeOne cX3_makeOne 3 none, Cond.fieldLink RX3 9 "PhaseTones$Sound" "limit" "I", Cond.fieldLink RX3 46 "PhaseTones$Sound" "clipped" "I", Cond.methodLink RX3 89 Lib.Math.min.name, Cond.static Lib.Math.min.name, Cond.initialized "java/lang/Math", Cond.code Lib.Math.min.name Lib.Math.min.code 2 (some .int), Cond.fieldLink RX3 21 "PhaseTones$Sound" "wheels" "[LPhaseTones$Wheel;", Cond.fieldLink RX3 29 "PhaseTones$Wheel" "isOn" "Z", Cond.methodLink RX3 86 yX3_sumOfOn, Cond.instanceMethod yX3_sumOfOn, Cond.selects RX3 yX3_sumOfOn yX3_sumOfOn, Cond.code yX3_sumOfOn cX3_sumOfOn 3 (some .int), Cond.methodLink RX3 64 yX3_valueGivenBy]
def wsX3_makeSome_r2 : List Cond := [Cond.instanceMethod yX3_valueGivenBy, Cond.selects RX3 yX3_valueGivenBy yX3_valueGivenBy, Cond.code yX3_valueGivenBy cX3_valueGivenBy 3 (some .int), Cond.fieldLink RX3 55 "PhaseTones$Wheel" "table" "I", Cond.fieldLink RX3 58 "PhaseTones$Wheel" "phase" "I", Cond.fieldLink RX3 15 "PhaseTones$Sound" "values" "[I", Cond.fieldLink RX3 61 "PhaseTones$Wheel" "volume" "I", Cond.methodLink RX3 92 yX3_keepMixture, Cond.instanceMethod yX3_keepMixture, Cond.selects RX3 yX3_keepMixture yX3_keepMixture, Cond.code yX3_keepMixture cX3_keepMixture 2 none, Cond.fieldLink RX3 52 "PhaseTones$Sound" "rises" "I", Cond.fieldLink RX3 49 "PhaseTones$Sound" "sum" "I", Cond.constant RX3 103 (1000003), Cond.fieldLink RX3 25 "PhaseTones$Sound" "latest" "[I", Cond.methodLink RX3 99 yX3_mixtureAgo, Cond.instanceMethod yX3_mixtureAgo, Cond.selects RX3 yX3_mixtureAgo yX3_mixtureAgo, Cond.code yX3_mixtureAgo cX3_mixtureAgo 2 (some .int), Cond.methodLink RX3 104 yJ9_floorMod_7cf53, Cond.static yJ9_floorMod_7cf53, Cond.initialized RJ9, Cond.code yJ9_floorMod_7cf53 cJ9_floorMod_7cf53 3 (some .int), Cond.methodLink RX3 96 yX4_goOn]
def wsX3_makeSome_r3 : List Cond := [Cond.instanceMethod yX4_goOn, Cond.selects RX4 yX4_goOn yX4_goOn, Cond.initialized RX4, Cond.code yX4_goOn cX4_goOn 1 none, Cond.fieldLink RX4 25 "PhaseTones$Wheel" "phase" "I", Cond.fieldLink RX4 9 "PhaseTones$Wheel" "step" "I", Cond.constant RX4 53 (65536), Cond.fieldLink RX4 35 "PhaseTones$Wheel" "sweeps" "I", Cond.methodLink RX4 54 yX4_goOnSweeping, Cond.instanceMethod yX4_goOnSweeping, Cond.selects RX4 yX4_goOnSweeping yX4_goOnSweeping, Cond.code yX4_goOnSweeping cX4_goOnSweeping 2 none, Cond.fieldLink RX4 22 "PhaseTones$Wheel" "lengths" "[I", Cond.fieldLink RX4 47 "PhaseTones$Wheel" "gone" "I", Cond.fieldLink RX4 44 "PhaseTones$Wheel" "begin" "I", Cond.fieldLink RX4 18 "PhaseTones$Wheel" "ends" "[I", Cond.methodLink RX4 57 yX4_dropFirstSweep, Cond.instanceMethod yX4_dropFirstSweep, Cond.selects RX4 yX4_dropFirstSweep yX4_dropFirstSweep, Cond.code yX4_dropFirstSweep cX4_dropFirstSweep 2 none, Cond.methodLink RX4 50 yX4_beginSweep, Cond.instanceMethod yX4_beginSweep, Cond.selects RX4 yX4_beginSweep yX4_beginSweep, Cond.code yX4_beginSweep cX4_beginSweep 1 none]
def wsX3_makeSome : List Cond := .code yX3_makeSome cX3_makeSome 3 (some .boolean) :: ((wsX3_makeSome_r1 ++ (wsX3_makeSome_r2 ++ wsX3_makeSome_r3)) ++ wsX30 ++ wsX40)
def wsX4_changeStep : List Cond := .code yX4_changeStep cX4_changeStep 2 none :: ([.fieldLink RX4 9 "PhaseTones$Wheel" "step" "I", .fieldLink RX4 35 "PhaseTones$Wheel" "sweeps" "I"] ++ wsX40)
def wsX4_addSweep : List Cond := .code yX4_addSweep cX4_addSweep 3 (some .boolean) :: ([.fieldLink RX4 35 "PhaseTones$Wheel" "sweeps" "I", .fieldLink RX4 18 "PhaseTones$Wheel" "ends" "[I", .fieldLink RX4 22 "PhaseTones$Wheel" "lengths" "[I", .methodLink RX4 50 yX4_beginSweep, .instanceMethod yX4_beginSweep, .selects RX4 yX4_beginSweep yX4_beginSweep, .initialized RX4, .code yX4_beginSweep cX4_beginSweep 1 none, .fieldLink RX4 9 "PhaseTones$Wheel" "step" "I", .fieldLink RX4 44 "PhaseTones$Wheel" "begin" "I", .fieldLink RX4 47 "PhaseTones$Wheel" "gone" "I"] ++ wsX40)
def wsX4_image : List Cond := .code yX4_image cX4_image 1 (some .int) :: ([.fieldLink RX4 9 "PhaseTones$Wheel" "step" "I", .constant RX4 60 (32768), .constant RX4 53 (65536)] ++ wsX40)
def wsX4_samplesOfSweeps : List Cond := .code yX4_samplesOfSweeps cX4_samplesOfSweeps 3 (some .int) :: ([.fieldLink RX4 35 "PhaseTones$Wheel" "sweeps" "I", .fieldLink RX4 22 "PhaseTones$Wheel" "lengths" "[I", .fieldLink RX4 47 "PhaseTones$Wheel" "gone" "I"] ++ wsX40)
def wsX4_lastStep : List Cond := .code yX4_lastStep cX4_lastStep 1 (some .int) :: ([.fieldLink RX4 35 "PhaseTones$Wheel" "sweeps" "I", .fieldLink RX4 18 "PhaseTones$Wheel" "ends" "[I", .fieldLink RX4 9 "PhaseTones$Wheel" "step" "I"] ++ wsX40)
def wsX4_goRound_r1 : List Cond := [Cond.fieldLink RX4 35 "PhaseTones$Wheel" "sweeps" "I", Cond.constant RX4 61 (70000), Cond.fieldLink RX4 25 "PhaseTones$Wheel" "phase" "I", Cond.fieldLink RX4 9 "PhaseTones$Wheel" "step" "I", Cond.constant RX4 65 (65535), Cond.methodLink RX4 62 yX4_goOn, Cond.instanceMethod yX4_goOn, Cond.selects RX4 yX4_goOn yX4_goOn, Cond.initialized RX4, Cond.code yX4_goOn cX4_goOn 1 none, Cond.constant RX4 53 (65536), Cond.methodLink RX4 54 yX4_goOnSweeping, Cond.instanceMethod yX4_goOnSweeping, Cond.selects RX4 yX4_goOnSweeping yX4_goOnSweeping, Cond.code yX4_goOnSweeping cX4_goOnSweeping 2 none, Cond.fieldLink RX4 22 "PhaseTones$Wheel" "lengths" "[I", Cond.fieldLink RX4 47 "PhaseTones$Wheel" "gone" "I", Cond.fieldLink RX4 44 "PhaseTones$Wheel" "begin" "I", Cond.fieldLink RX4 18 "PhaseTones$Wheel" "ends" "[I", Cond.methodLink RX4 57 yX4_dropFirstSweep, Cond.instanceMethod yX4_dropFirstSweep, Cond.selects RX4 yX4_dropFirstSweep yX4_dropFirstSweep, Cond.code yX4_dropFirstSweep cX4_dropFirstSweep 2 none, Cond.methodLink RX4 50 yX4_beginSweep]
def wsX4_goRound_r2 : List Cond := [Cond.instanceMethod yX4_beginSweep, Cond.selects RX4 yX4_beginSweep yX4_beginSweep, Cond.code yX4_beginSweep cX4_beginSweep 1 none]
def wsX4_goRound : List Cond := .code yX4_goRound cX4_goRound 3 (some .int) :: ((wsX4_goRound_r1 ++ wsX4_goRound_r2) ++ wsX40)
def wsX5_init_r1 : List Cond := [Cond.methodLink RX5 1 objectInit, Cond.instanceMethod objectInit, Cond.code objectInit ⟨#[0xb1]⟩ 1 none, Cond.classLink RX5 7 RX3, Cond.instantiable RX3 8, Cond.initialized RX3, Cond.fieldLink RX5 10 "PhaseTones" "now" "LPhaseTones$Sound;", Cond.fieldLink RX5 16 "PhaseTones" "trial" "LPhaseTones$Sound;", Cond.classLink RX5 19 RX0, Cond.instantiable RX0 3, Cond.initialized RX0, Cond.fieldLink RX5 22 "PhaseTones" "history" "LPhaseTones$History;", Cond.classLink RX5 26 RX2, Cond.instantiable RX2 2, Cond.initialized RX2, Cond.fieldLink RX5 29 "PhaseTones" "slots" "LPhaseTones$Slots;", Cond.classLink RX5 33 RX1, Cond.instantiable RX1 7, Cond.initialized RX1, Cond.fieldLink RX5 36 "PhaseTones" "pad" "LPhaseTones$Pad;", Cond.methodLink RX5 9 yX3_init, Cond.instanceMethod yX3_init, Cond.code yX3_init cX3_init 3 none, Cond.methodLink RX3 3 objectInit]
def wsX5_init_r2 : List Cond := [Cond.fieldLink RX3 9 "PhaseTones$Sound" "limit" "I", Cond.arrayClass .int, Cond.fieldLink RX3 15 "PhaseTones$Sound" "values" "[I", Cond.classLink RX3 19 RX4, Cond.fieldLink RX3 21 "PhaseTones$Sound" "wheels" "[LPhaseTones$Wheel;", Cond.fieldLink RX3 25 "PhaseTones$Sound" "latest" "[I", Cond.instantiable RX4 10, Cond.initialized RX4, Cond.fieldLink RX3 29 "PhaseTones$Wheel" "isOn" "Z", Cond.instanceMethod yX4_init, Cond.code yX4_init cX4_init 1 none, Cond.methodLink RX4 3 objectInit, Cond.fieldLink RX4 9 "PhaseTones$Wheel" "step" "I", Cond.fieldLink RX4 15 "PhaseTones$Wheel" "volume" "I", Cond.fieldLink RX4 18 "PhaseTones$Wheel" "ends" "[I", Cond.fieldLink RX4 22 "PhaseTones$Wheel" "lengths" "[I", Cond.methodLink RX5 21 yX0_init, Cond.instanceMethod yX0_init, Cond.code yX0_init cX0_init 2 none, Cond.methodLink RX0 3 objectInit, Cond.classLink RX0 9 RX3, Cond.fieldLink RX0 11 "PhaseTones$History" "states" "[LPhaseTones$Sound;", Cond.methodLink RX0 17 yX3_init, Cond.methodLink RX5 28 yX2_init]
def wsX5_init_r3 : List Cond := [Cond.instanceMethod yX2_init, Cond.code yX2_init cX2_init 2 none, Cond.methodLink RX2 3 objectInit, Cond.classLink RX2 9 RX3, Cond.fieldLink RX2 11 "PhaseTones$Slots" "sounds" "[LPhaseTones$Sound;", Cond.arrayClass .boolean, Cond.fieldLink RX2 17 "PhaseTones$Slots" "isSaved" "[Z", Cond.methodLink RX2 21 yX3_init, Cond.instanceMethod yX1_init, Cond.code yX1_init cX1_init 1 none, Cond.methodLink RX1 3 objectInit, Cond.arrayClass .char, Cond.fieldLink RX1 9 "PhaseTones$Pad" "text" "[C"]
def wsX5_init : List Cond := .code yX5_init cX5_init 1 none :: ((wsX5_init_r1 ++ (wsX5_init_r2 ++ wsX5_init_r3)) ++ wsX30 ++ wsX50 ++ wsX00 ++ wsX20 ++ wsX10 ++ wsX40)
def wsX5_isOutside : List Cond := .code yX5_isOutside cX5_isOutside 3 (some .boolean) :: ([])
def wsX5_clip_r1 : List Cond := [Cond.fieldLink RX5 22 "PhaseTones" "history" "LPhaseTones$History;", Cond.fieldLink RX5 10 "PhaseTones" "now" "LPhaseTones$Sound;", Cond.fieldLink RX5 48 "PhaseTones$Sound" "limit" "I", Cond.methodLink RX5 40 yX5_isOutside, Cond.static yX5_isOutside, Cond.initialized RX5, Cond.code yX5_isOutside cX5_isOutside 3 (some .boolean), Cond.methodLink RX5 44 yX0_keep, Cond.instanceMethod yX0_keep, Cond.selects RX0 yX0_keep yX0_keep, Cond.initialized RX0, Cond.code yX0_keep cX0_keep 2 none, Cond.fieldLink RX0 11 "PhaseTones$History" "states" "[LPhaseTones$Sound;", Cond.fieldLink RX0 18 "PhaseTones$History" "recorded" "I", Cond.fieldLink RX0 32 "PhaseTones$History" "kept" "I", Cond.methodLink RX0 35 Lib.Math.min.name, Cond.static Lib.Math.min.name, Cond.initialized "java/lang/Math", Cond.code Lib.Math.min.name Lib.Math.min.code 2 (some .int), Cond.methodLink RX0 22 yJ9_floorMod_7cf53, Cond.static yJ9_floorMod_7cf53, Cond.initialized RJ9, Cond.code yJ9_floorMod_7cf53 cJ9_floorMod_7cf53 3 (some .int), Cond.methodLink RX0 28 yX3_takeOver]
def wsX5_clip_r2 : List Cond := [Cond.instanceMethod yX3_takeOver, Cond.selects RX3 yX3_takeOver yX3_takeOver, Cond.initialized RX3, Cond.code yX3_takeOver cX3_takeOver 3 none, Cond.fieldLink RX3 9 "PhaseTones$Sound" "limit" "I", Cond.fieldLink RX3 15 "PhaseTones$Sound" "values" "[I", Cond.methodLink RX3 33 arraycopyName, Cond.native arraycopyName, Cond.static arraycopyName, Cond.initialized "java/lang/System", Cond.fieldLink RX3 21 "PhaseTones$Sound" "wheels" "[LPhaseTones$Wheel;", Cond.fieldLink RX3 43 "PhaseTones$Sound" "made" "I", Cond.fieldLink RX3 46 "PhaseTones$Sound" "clipped" "I", Cond.fieldLink RX3 49 "PhaseTones$Sound" "sum" "I", Cond.fieldLink RX3 52 "PhaseTones$Sound" "rises" "I", Cond.fieldLink RX3 25 "PhaseTones$Sound" "latest" "[I", Cond.methodLink RX3 39 yX4_takeOver, Cond.instanceMethod yX4_takeOver, Cond.selects RX4 yX4_takeOver yX4_takeOver, Cond.initialized RX4, Cond.code yX4_takeOver cX4_takeOver 2 none, Cond.fieldLink RX4 25 "PhaseTones$Wheel" "phase" "I", Cond.fieldLink RX4 9 "PhaseTones$Wheel" "step" "I", Cond.fieldLink RX4 28 "PhaseTones$Wheel" "table" "I"]
def wsX5_clip_r3 : List Cond := [Cond.fieldLink RX4 15 "PhaseTones$Wheel" "volume" "I", Cond.fieldLink RX4 31 "PhaseTones$Wheel" "isOn" "Z", Cond.fieldLink RX4 35 "PhaseTones$Wheel" "sweeps" "I", Cond.fieldLink RX4 18 "PhaseTones$Wheel" "ends" "[I", Cond.methodLink RX4 38 arraycopyName, Cond.fieldLink RX4 22 "PhaseTones$Wheel" "lengths" "[I", Cond.fieldLink RX4 44 "PhaseTones$Wheel" "begin" "I", Cond.fieldLink RX4 47 "PhaseTones$Wheel" "gone" "I"]
def wsX5_clip : List Cond := .code yX5_clip cX5_clip 3 (some .int) :: ((wsX5_clip_r1 ++ (wsX5_clip_r2 ++ wsX5_clip_r3)) ++ wsX50 ++ wsX30 ++ wsX00 ++ wsX40)
def wsX5_isNoTable : List Cond := .code yX5_isNoTable cX5_isNoTable 1 (some .boolean) :: ([.methodLink RX5 40 yX5_isOutside, .static yX5_isOutside, .initialized RX5, .code yX5_isOutside cX5_isOutside 3 (some .boolean)])
def wsX5_isNoPlace : List Cond := .code yX5_isNoPlace cX5_isNoPlace 1 (some .boolean) :: ([.methodLink RX5 40 yX5_isOutside, .static yX5_isOutside, .initialized RX5, .code yX5_isOutside cX5_isOutside 3 (some .boolean)])
def wsX5_fill_r1 : List Cond := [Cond.fieldLink RX5 22 "PhaseTones" "history" "LPhaseTones$History;", Cond.fieldLink RX5 10 "PhaseTones" "now" "LPhaseTones$Sound;", Cond.fieldLink RX5 59 "PhaseTones$Sound" "values" "[I", Cond.methodLink RX5 52 yX5_isNoTable, Cond.static yX5_isNoTable, Cond.initialized RX5, Cond.code yX5_isNoTable cX5_isNoTable 1 (some .boolean), Cond.methodLink RX5 40 yX5_isOutside, Cond.static yX5_isOutside, Cond.code yX5_isOutside cX5_isOutside 3 (some .boolean), Cond.methodLink RX5 56 yX5_isNoPlace, Cond.static yX5_isNoPlace, Cond.code yX5_isNoPlace cX5_isNoPlace 1 (some .boolean), Cond.methodLink RX5 44 yX0_keep, Cond.instanceMethod yX0_keep, Cond.selects RX0 yX0_keep yX0_keep, Cond.initialized RX0, Cond.code yX0_keep cX0_keep 2 none, Cond.fieldLink RX0 11 "PhaseTones$History" "states" "[LPhaseTones$Sound;", Cond.fieldLink RX0 18 "PhaseTones$History" "recorded" "I", Cond.fieldLink RX0 32 "PhaseTones$History" "kept" "I", Cond.methodLink RX0 35 Lib.Math.min.name, Cond.static Lib.Math.min.name, Cond.initialized "java/lang/Math"]
def wsX5_fill_r2 : List Cond := [Cond.code Lib.Math.min.name Lib.Math.min.code 2 (some .int), Cond.methodLink RX0 22 yJ9_floorMod_7cf53, Cond.static yJ9_floorMod_7cf53, Cond.initialized RJ9, Cond.code yJ9_floorMod_7cf53 cJ9_floorMod_7cf53 3 (some .int), Cond.methodLink RX0 28 yX3_takeOver, Cond.instanceMethod yX3_takeOver, Cond.selects RX3 yX3_takeOver yX3_takeOver, Cond.initialized RX3, Cond.code yX3_takeOver cX3_takeOver 3 none, Cond.fieldLink RX3 9 "PhaseTones$Sound" "limit" "I", Cond.fieldLink RX3 15 "PhaseTones$Sound" "values" "[I", Cond.methodLink RX3 33 arraycopyName, Cond.native arraycopyName, Cond.static arraycopyName, Cond.initialized "java/lang/System", Cond.fieldLink RX3 21 "PhaseTones$Sound" "wheels" "[LPhaseTones$Wheel;", Cond.fieldLink RX3 43 "PhaseTones$Sound" "made" "I", Cond.fieldLink RX3 46 "PhaseTones$Sound" "clipped" "I", Cond.fieldLink RX3 49 "PhaseTones$Sound" "sum" "I", Cond.fieldLink RX3 52 "PhaseTones$Sound" "rises" "I", Cond.fieldLink RX3 25 "PhaseTones$Sound" "latest" "[I", Cond.methodLink RX3 39 yX4_takeOver, Cond.instanceMethod yX4_takeOver]
def wsX5_fill_r3 : List Cond := [Cond.selects RX4 yX4_takeOver yX4_takeOver, Cond.initialized RX4, Cond.code yX4_takeOver cX4_takeOver 2 none, Cond.fieldLink RX4 25 "PhaseTones$Wheel" "phase" "I", Cond.fieldLink RX4 9 "PhaseTones$Wheel" "step" "I", Cond.fieldLink RX4 28 "PhaseTones$Wheel" "table" "I", Cond.fieldLink RX4 15 "PhaseTones$Wheel" "volume" "I", Cond.fieldLink RX4 31 "PhaseTones$Wheel" "isOn" "Z", Cond.fieldLink RX4 35 "PhaseTones$Wheel" "sweeps" "I", Cond.fieldLink RX4 18 "PhaseTones$Wheel" "ends" "[I", Cond.methodLink RX4 38 arraycopyName, Cond.fieldLink RX4 22 "PhaseTones$Wheel" "lengths" "[I", Cond.fieldLink RX4 44 "PhaseTones$Wheel" "begin" "I", Cond.fieldLink RX4 47 "PhaseTones$Wheel" "gone" "I"]
def wsX5_fill : List Cond := .code yX5_fill cX5_fill 6 (some .int) :: ((wsX5_fill_r1 ++ (wsX5_fill_r2 ++ wsX5_fill_r3)) ++ wsX50 ++ wsX30 ++ wsX00 ++ wsX40)
def wsX5_isNoWheel : List Cond := .code yX5_isNoWheel cX5_isNoWheel 1 (some .boolean) :: ([.methodLink RX5 40 yX5_isOutside, .static yX5_isOutside, .initialized RX5, .code yX5_isOutside cX5_isOutside 3 (some .boolean)])
def wsX5_step_r1 : List Cond := [Cond.constant RX5 66 (65535), Cond.fieldLink RX5 22 "PhaseTones" "history" "LPhaseTones$History;", Cond.fieldLink RX5 10 "PhaseTones" "now" "LPhaseTones$Sound;", Cond.fieldLink RX5 67 "PhaseTones$Sound" "wheels" "[LPhaseTones$Wheel;", Cond.fieldLink RX5 71 "PhaseTones$Wheel" "step" "I", Cond.methodLink RX5 63 yX5_isNoWheel, Cond.static yX5_isNoWheel, Cond.initialized RX5, Cond.code yX5_isNoWheel cX5_isNoWheel 1 (some .boolean), Cond.methodLink RX5 40 yX5_isOutside, Cond.static yX5_isOutside, Cond.code yX5_isOutside cX5_isOutside 3 (some .boolean), Cond.methodLink RX5 44 yX0_keep, Cond.instanceMethod yX0_keep, Cond.selects RX0 yX0_keep yX0_keep, Cond.initialized RX0, Cond.code yX0_keep cX0_keep 2 none, Cond.fieldLink RX0 11 "PhaseTones$History" "states" "[LPhaseTones$Sound;", Cond.fieldLink RX0 18 "PhaseTones$History" "recorded" "I", Cond.fieldLink RX0 32 "PhaseTones$History" "kept" "I", Cond.methodLink RX0 35 Lib.Math.min.name, Cond.static Lib.Math.min.name, Cond.initialized "java/lang/Math", Cond.code Lib.Math.min.name Lib.Math.min.code 2 (some .int)]
def wsX5_step_r2 : List Cond := [Cond.methodLink RX0 22 yJ9_floorMod_7cf53, Cond.static yJ9_floorMod_7cf53, Cond.initialized RJ9, Cond.code yJ9_floorMod_7cf53 cJ9_floorMod_7cf53 3 (some .int), Cond.methodLink RX0 28 yX3_takeOver, Cond.instanceMethod yX3_takeOver, Cond.selects RX3 yX3_takeOver yX3_takeOver, Cond.initialized RX3, Cond.code yX3_takeOver cX3_takeOver 3 none, Cond.fieldLink RX3 9 "PhaseTones$Sound" "limit" "I", Cond.fieldLink RX3 15 "PhaseTones$Sound" "values" "[I", Cond.methodLink RX3 33 arraycopyName, Cond.native arraycopyName, Cond.static arraycopyName, Cond.initialized "java/lang/System", Cond.fieldLink RX3 21 "PhaseTones$Sound" "wheels" "[LPhaseTones$Wheel;", Cond.fieldLink RX3 43 "PhaseTones$Sound" "made" "I", Cond.fieldLink RX3 46 "PhaseTones$Sound" "clipped" "I", Cond.fieldLink RX3 49 "PhaseTones$Sound" "sum" "I", Cond.fieldLink RX3 52 "PhaseTones$Sound" "rises" "I", Cond.fieldLink RX3 25 "PhaseTones$Sound" "latest" "[I", Cond.methodLink RX3 39 yX4_takeOver, Cond.instanceMethod yX4_takeOver, Cond.selects RX4 yX4_takeOver yX4_takeOver]
def wsX5_step_r3 : List Cond := [Cond.initialized RX4, Cond.code yX4_takeOver cX4_takeOver 2 none, Cond.fieldLink RX4 25 "PhaseTones$Wheel" "phase" "I", Cond.fieldLink RX4 9 "PhaseTones$Wheel" "step" "I", Cond.fieldLink RX4 28 "PhaseTones$Wheel" "table" "I", Cond.fieldLink RX4 15 "PhaseTones$Wheel" "volume" "I", Cond.fieldLink RX4 31 "PhaseTones$Wheel" "isOn" "Z", Cond.fieldLink RX4 35 "PhaseTones$Wheel" "sweeps" "I", Cond.fieldLink RX4 18 "PhaseTones$Wheel" "ends" "[I", Cond.methodLink RX4 38 arraycopyName, Cond.fieldLink RX4 22 "PhaseTones$Wheel" "lengths" "[I", Cond.fieldLink RX4 44 "PhaseTones$Wheel" "begin" "I", Cond.fieldLink RX4 47 "PhaseTones$Wheel" "gone" "I", Cond.methodLink RX5 76 yX4_changeStep, Cond.instanceMethod yX4_changeStep, Cond.selects RX4 yX4_changeStep yX4_changeStep, Cond.code yX4_changeStep cX4_changeStep 2 none]
def wsX5_step : List Cond := .code yX5_step cX5_step 4 (some .int) :: ((wsX5_step_r1 ++ (wsX5_step_r2 ++ wsX5_step_r3)) ++ wsX50 ++ wsX30 ++ wsX40 ++ wsX00)
def wsX5_table_r1 : List Cond := [Cond.fieldLink RX5 22 "PhaseTones" "history" "LPhaseTones$History;", Cond.fieldLink RX5 10 "PhaseTones" "now" "LPhaseTones$Sound;", Cond.fieldLink RX5 67 "PhaseTones$Sound" "wheels" "[LPhaseTones$Wheel;", Cond.fieldLink RX5 80 "PhaseTones$Wheel" "table" "I", Cond.methodLink RX5 63 yX5_isNoWheel, Cond.static yX5_isNoWheel, Cond.initialized RX5, Cond.code yX5_isNoWheel cX5_isNoWheel 1 (some .boolean), Cond.methodLink RX5 40 yX5_isOutside, Cond.static yX5_isOutside, Cond.code yX5_isOutside cX5_isOutside 3 (some .boolean), Cond.methodLink RX5 52 yX5_isNoTable, Cond.static yX5_isNoTable, Cond.code yX5_isNoTable cX5_isNoTable 1 (some .boolean), Cond.methodLink RX5 44 yX0_keep, Cond.instanceMethod yX0_keep, Cond.selects RX0 yX0_keep yX0_keep, Cond.initialized RX0, Cond.code yX0_keep cX0_keep 2 none, Cond.fieldLink RX0 11 "PhaseTones$History" "states" "[LPhaseTones$Sound;", Cond.fieldLink RX0 18 "PhaseTones$History" "recorded" "I", Cond.fieldLink RX0 32 "PhaseTones$History" "kept" "I", Cond.methodLink RX0 35 Lib.Math.min.name, Cond.static Lib.Math.min.name]
def wsX5_table_r2 : List Cond := [Cond.initialized "java/lang/Math", Cond.code Lib.Math.min.name Lib.Math.min.code 2 (some .int), Cond.methodLink RX0 22 yJ9_floorMod_7cf53, Cond.static yJ9_floorMod_7cf53, Cond.initialized RJ9, Cond.code yJ9_floorMod_7cf53 cJ9_floorMod_7cf53 3 (some .int), Cond.methodLink RX0 28 yX3_takeOver, Cond.instanceMethod yX3_takeOver, Cond.selects RX3 yX3_takeOver yX3_takeOver, Cond.initialized RX3, Cond.code yX3_takeOver cX3_takeOver 3 none, Cond.fieldLink RX3 9 "PhaseTones$Sound" "limit" "I", Cond.fieldLink RX3 15 "PhaseTones$Sound" "values" "[I", Cond.methodLink RX3 33 arraycopyName, Cond.native arraycopyName, Cond.static arraycopyName, Cond.initialized "java/lang/System", Cond.fieldLink RX3 21 "PhaseTones$Sound" "wheels" "[LPhaseTones$Wheel;", Cond.fieldLink RX3 43 "PhaseTones$Sound" "made" "I", Cond.fieldLink RX3 46 "PhaseTones$Sound" "clipped" "I", Cond.fieldLink RX3 49 "PhaseTones$Sound" "sum" "I", Cond.fieldLink RX3 52 "PhaseTones$Sound" "rises" "I", Cond.fieldLink RX3 25 "PhaseTones$Sound" "latest" "[I", Cond.methodLink RX3 39 yX4_takeOver]
def wsX5_table_r3 : List Cond := [Cond.instanceMethod yX4_takeOver, Cond.selects RX4 yX4_takeOver yX4_takeOver, Cond.initialized RX4, Cond.code yX4_takeOver cX4_takeOver 2 none, Cond.fieldLink RX4 25 "PhaseTones$Wheel" "phase" "I", Cond.fieldLink RX4 9 "PhaseTones$Wheel" "step" "I", Cond.fieldLink RX4 28 "PhaseTones$Wheel" "table" "I", Cond.fieldLink RX4 15 "PhaseTones$Wheel" "volume" "I", Cond.fieldLink RX4 31 "PhaseTones$Wheel" "isOn" "Z", Cond.fieldLink RX4 35 "PhaseTones$Wheel" "sweeps" "I", Cond.fieldLink RX4 18 "PhaseTones$Wheel" "ends" "[I", Cond.methodLink RX4 38 arraycopyName, Cond.fieldLink RX4 22 "PhaseTones$Wheel" "lengths" "[I", Cond.fieldLink RX4 44 "PhaseTones$Wheel" "begin" "I", Cond.fieldLink RX4 47 "PhaseTones$Wheel" "gone" "I"]
def wsX5_table : List Cond := .code yX5_table cX5_table 4 (some .int) :: ((wsX5_table_r1 ++ (wsX5_table_r2 ++ wsX5_table_r3)) ++ wsX50 ++ wsX30 ++ wsX40 ++ wsX00)
def wsX5_volume_r1 : List Cond := [Cond.fieldLink RX5 22 "PhaseTones" "history" "LPhaseTones$History;", Cond.fieldLink RX5 10 "PhaseTones" "now" "LPhaseTones$Sound;", Cond.fieldLink RX5 67 "PhaseTones$Sound" "wheels" "[LPhaseTones$Wheel;", Cond.fieldLink RX5 83 "PhaseTones$Wheel" "volume" "I", Cond.methodLink RX5 63 yX5_isNoWheel, Cond.static yX5_isNoWheel, Cond.initialized RX5, Cond.code yX5_isNoWheel cX5_isNoWheel 1 (some .boolean), Cond.methodLink RX5 40 yX5_isOutside, Cond.static yX5_isOutside, Cond.code yX5_isOutside cX5_isOutside 3 (some .boolean), Cond.methodLink RX5 44 yX0_keep, Cond.instanceMethod yX0_keep, Cond.selects RX0 yX0_keep yX0_keep, Cond.initialized RX0, Cond.code yX0_keep cX0_keep 2 none, Cond.fieldLink RX0 11 "PhaseTones$History" "states" "[LPhaseTones$Sound;", Cond.fieldLink RX0 18 "PhaseTones$History" "recorded" "I", Cond.fieldLink RX0 32 "PhaseTones$History" "kept" "I", Cond.methodLink RX0 35 Lib.Math.min.name, Cond.static Lib.Math.min.name, Cond.initialized "java/lang/Math", Cond.code Lib.Math.min.name Lib.Math.min.code 2 (some .int), Cond.methodLink RX0 22 yJ9_floorMod_7cf53]
def wsX5_volume_r2 : List Cond := [Cond.static yJ9_floorMod_7cf53, Cond.initialized RJ9, Cond.code yJ9_floorMod_7cf53 cJ9_floorMod_7cf53 3 (some .int), Cond.methodLink RX0 28 yX3_takeOver, Cond.instanceMethod yX3_takeOver, Cond.selects RX3 yX3_takeOver yX3_takeOver, Cond.initialized RX3, Cond.code yX3_takeOver cX3_takeOver 3 none, Cond.fieldLink RX3 9 "PhaseTones$Sound" "limit" "I", Cond.fieldLink RX3 15 "PhaseTones$Sound" "values" "[I", Cond.methodLink RX3 33 arraycopyName, Cond.native arraycopyName, Cond.static arraycopyName, Cond.initialized "java/lang/System", Cond.fieldLink RX3 21 "PhaseTones$Sound" "wheels" "[LPhaseTones$Wheel;", Cond.fieldLink RX3 43 "PhaseTones$Sound" "made" "I", Cond.fieldLink RX3 46 "PhaseTones$Sound" "clipped" "I", Cond.fieldLink RX3 49 "PhaseTones$Sound" "sum" "I", Cond.fieldLink RX3 52 "PhaseTones$Sound" "rises" "I", Cond.fieldLink RX3 25 "PhaseTones$Sound" "latest" "[I", Cond.methodLink RX3 39 yX4_takeOver, Cond.instanceMethod yX4_takeOver, Cond.selects RX4 yX4_takeOver yX4_takeOver, Cond.initialized RX4]
def wsX5_volume_r3 : List Cond := [Cond.code yX4_takeOver cX4_takeOver 2 none, Cond.fieldLink RX4 25 "PhaseTones$Wheel" "phase" "I", Cond.fieldLink RX4 9 "PhaseTones$Wheel" "step" "I", Cond.fieldLink RX4 28 "PhaseTones$Wheel" "table" "I", Cond.fieldLink RX4 15 "PhaseTones$Wheel" "volume" "I", Cond.fieldLink RX4 31 "PhaseTones$Wheel" "isOn" "Z", Cond.fieldLink RX4 35 "PhaseTones$Wheel" "sweeps" "I", Cond.fieldLink RX4 18 "PhaseTones$Wheel" "ends" "[I", Cond.methodLink RX4 38 arraycopyName, Cond.fieldLink RX4 22 "PhaseTones$Wheel" "lengths" "[I", Cond.fieldLink RX4 44 "PhaseTones$Wheel" "begin" "I", Cond.fieldLink RX4 47 "PhaseTones$Wheel" "gone" "I"]
def wsX5_volume : List Cond := .code yX5_volume cX5_volume 4 (some .int) :: ((wsX5_volume_r1 ++ (wsX5_volume_r2 ++ wsX5_volume_r3)) ++ wsX50 ++ wsX30 ++ wsX40 ++ wsX00)
def wsJ6_bitCount_0f7a4 : List Cond := .code yJ6_bitCount_0f7a4 cJ6_bitCount_0f7a4 1 (some .int) :: ([.constant RJ6 265 (1431655765), .constant RJ6 266 (858993459), .constant RJ6 267 (252645135)])
def wsX5_turn_r1 : List Cond := [Cond.fieldLink RX5 10 "PhaseTones" "now" "LPhaseTones$Sound;", Cond.fieldLink RX5 67 "PhaseTones$Sound" "wheels" "[LPhaseTones$Wheel;", Cond.fieldLink RX5 86 "PhaseTones$Wheel" "isOn" "Z", Cond.fieldLink RX5 22 "PhaseTones" "history" "LPhaseTones$History;", Cond.methodLink RX5 63 yX5_isNoWheel, Cond.static yX5_isNoWheel, Cond.initialized RX5, Cond.code yX5_isNoWheel cX5_isNoWheel 1 (some .boolean), Cond.methodLink RX5 40 yX5_isOutside, Cond.static yX5_isOutside, Cond.code yX5_isOutside cX5_isOutside 3 (some .boolean), Cond.methodLink RX5 44 yX0_keep, Cond.instanceMethod yX0_keep, Cond.selects RX0 yX0_keep yX0_keep, Cond.initialized RX0, Cond.code yX0_keep cX0_keep 2 none, Cond.fieldLink RX0 11 "PhaseTones$History" "states" "[LPhaseTones$Sound;", Cond.fieldLink RX0 18 "PhaseTones$History" "recorded" "I", Cond.fieldLink RX0 32 "PhaseTones$History" "kept" "I", Cond.methodLink RX0 35 Lib.Math.min.name, Cond.static Lib.Math.min.name, Cond.initialized "java/lang/Math", Cond.code Lib.Math.min.name Lib.Math.min.code 2 (some .int), Cond.methodLink RX0 22 yJ9_floorMod_7cf53]
def wsX5_turn_r2 : List Cond := [Cond.static yJ9_floorMod_7cf53, Cond.initialized RJ9, Cond.code yJ9_floorMod_7cf53 cJ9_floorMod_7cf53 3 (some .int), Cond.methodLink RX0 28 yX3_takeOver, Cond.instanceMethod yX3_takeOver, Cond.selects RX3 yX3_takeOver yX3_takeOver, Cond.initialized RX3, Cond.code yX3_takeOver cX3_takeOver 3 none, Cond.fieldLink RX3 9 "PhaseTones$Sound" "limit" "I", Cond.fieldLink RX3 15 "PhaseTones$Sound" "values" "[I", Cond.methodLink RX3 33 arraycopyName, Cond.native arraycopyName, Cond.static arraycopyName, Cond.initialized "java/lang/System", Cond.fieldLink RX3 21 "PhaseTones$Sound" "wheels" "[LPhaseTones$Wheel;", Cond.fieldLink RX3 43 "PhaseTones$Sound" "made" "I", Cond.fieldLink RX3 46 "PhaseTones$Sound" "clipped" "I", Cond.fieldLink RX3 49 "PhaseTones$Sound" "sum" "I", Cond.fieldLink RX3 52 "PhaseTones$Sound" "rises" "I", Cond.fieldLink RX3 25 "PhaseTones$Sound" "latest" "[I", Cond.methodLink RX3 39 yX4_takeOver, Cond.instanceMethod yX4_takeOver, Cond.selects RX4 yX4_takeOver yX4_takeOver, Cond.initialized RX4]
def wsX5_turn_r3 : List Cond := [Cond.code yX4_takeOver cX4_takeOver 2 none, Cond.fieldLink RX4 25 "PhaseTones$Wheel" "phase" "I", Cond.fieldLink RX4 9 "PhaseTones$Wheel" "step" "I", Cond.fieldLink RX4 28 "PhaseTones$Wheel" "table" "I", Cond.fieldLink RX4 15 "PhaseTones$Wheel" "volume" "I", Cond.fieldLink RX4 31 "PhaseTones$Wheel" "isOn" "Z", Cond.fieldLink RX4 35 "PhaseTones$Wheel" "sweeps" "I", Cond.fieldLink RX4 18 "PhaseTones$Wheel" "ends" "[I", Cond.methodLink RX4 38 arraycopyName, Cond.fieldLink RX4 22 "PhaseTones$Wheel" "lengths" "[I", Cond.fieldLink RX4 44 "PhaseTones$Wheel" "begin" "I", Cond.fieldLink RX4 47 "PhaseTones$Wheel" "gone" "I", Cond.methodLink RX5 90 yX3_maskOfOn, Cond.instanceMethod yX3_maskOfOn, Cond.selects RX3 yX3_maskOfOn yX3_maskOfOn, Cond.code yX3_maskOfOn cX3_maskOfOn 3 (some .int), Cond.fieldLink RX3 29 "PhaseTones$Wheel" "isOn" "Z", Cond.methodLink RX5 94 yJ6_bitCount_0f7a4, Cond.static yJ6_bitCount_0f7a4, Cond.initialized RJ6, Cond.code yJ6_bitCount_0f7a4 cJ6_bitCount_0f7a4 1 (some .int), Cond.constant RJ6 265 (1431655765), Cond.constant RJ6 266 (858993459), Cond.constant RJ6 267 (252645135)]
def wsX5_turn : List Cond := .code yX5_turn cX5_turn 3 (some .int) :: ((wsX5_turn_r1 ++ (wsX5_turn_r2 ++ wsX5_turn_r3)) ++ wsX50 ++ wsX30 ++ wsX40 ++ wsX00)
def wsX5_phase_r1 : List Cond := [Cond.constant RX5 66 (65535), Cond.fieldLink RX5 22 "PhaseTones" "history" "LPhaseTones$History;", Cond.fieldLink RX5 10 "PhaseTones" "now" "LPhaseTones$Sound;", Cond.fieldLink RX5 67 "PhaseTones$Sound" "wheels" "[LPhaseTones$Wheel;", Cond.fieldLink RX5 100 "PhaseTones$Wheel" "phase" "I", Cond.methodLink RX5 63 yX5_isNoWheel, Cond.static yX5_isNoWheel, Cond.initialized RX5, Cond.code yX5_isNoWheel cX5_isNoWheel 1 (some .boolean), Cond.methodLink RX5 40 yX5_isOutside, Cond.static yX5_isOutside, Cond.code yX5_isOutside cX5_isOutside 3 (some .boolean), Cond.methodLink RX5 44 yX0_keep, Cond.instanceMethod yX0_keep, Cond.selects RX0 yX0_keep yX0_keep, Cond.initialized RX0, Cond.code yX0_keep cX0_keep 2 none, Cond.fieldLink RX0 11 "PhaseTones$History" "states" "[LPhaseTones$Sound;", Cond.fieldLink RX0 18 "PhaseTones$History" "recorded" "I", Cond.fieldLink RX0 32 "PhaseTones$History" "kept" "I", Cond.methodLink RX0 35 Lib.Math.min.name, Cond.static Lib.Math.min.name, Cond.initialized "java/lang/Math", Cond.code Lib.Math.min.name Lib.Math.min.code 2 (some .int)]
def wsX5_phase_r2 : List Cond := [Cond.methodLink RX0 22 yJ9_floorMod_7cf53, Cond.static yJ9_floorMod_7cf53, Cond.initialized RJ9, Cond.code yJ9_floorMod_7cf53 cJ9_floorMod_7cf53 3 (some .int), Cond.methodLink RX0 28 yX3_takeOver, Cond.instanceMethod yX3_takeOver, Cond.selects RX3 yX3_takeOver yX3_takeOver, Cond.initialized RX3, Cond.code yX3_takeOver cX3_takeOver 3 none, Cond.fieldLink RX3 9 "PhaseTones$Sound" "limit" "I", Cond.fieldLink RX3 15 "PhaseTones$Sound" "values" "[I", Cond.methodLink RX3 33 arraycopyName, Cond.native arraycopyName, Cond.static arraycopyName, Cond.initialized "java/lang/System", Cond.fieldLink RX3 21 "PhaseTones$Sound" "wheels" "[LPhaseTones$Wheel;", Cond.fieldLink RX3 43 "PhaseTones$Sound" "made" "I", Cond.fieldLink RX3 46 "PhaseTones$Sound" "clipped" "I", Cond.fieldLink RX3 49 "PhaseTones$Sound" "sum" "I", Cond.fieldLink RX3 52 "PhaseTones$Sound" "rises" "I", Cond.fieldLink RX3 25 "PhaseTones$Sound" "latest" "[I", Cond.methodLink RX3 39 yX4_takeOver, Cond.instanceMethod yX4_takeOver, Cond.selects RX4 yX4_takeOver yX4_takeOver]
def wsX5_phase_r3 : List Cond := [Cond.initialized RX4, Cond.code yX4_takeOver cX4_takeOver 2 none, Cond.fieldLink RX4 25 "PhaseTones$Wheel" "phase" "I", Cond.fieldLink RX4 9 "PhaseTones$Wheel" "step" "I", Cond.fieldLink RX4 28 "PhaseTones$Wheel" "table" "I", Cond.fieldLink RX4 15 "PhaseTones$Wheel" "volume" "I", Cond.fieldLink RX4 31 "PhaseTones$Wheel" "isOn" "Z", Cond.fieldLink RX4 35 "PhaseTones$Wheel" "sweeps" "I", Cond.fieldLink RX4 18 "PhaseTones$Wheel" "ends" "[I", Cond.methodLink RX4 38 arraycopyName, Cond.fieldLink RX4 22 "PhaseTones$Wheel" "lengths" "[I", Cond.fieldLink RX4 44 "PhaseTones$Wheel" "begin" "I", Cond.fieldLink RX4 47 "PhaseTones$Wheel" "gone" "I"]
def wsX5_phase : List Cond := .code yX5_phase cX5_phase 4 (some .int) :: ((wsX5_phase_r1 ++ (wsX5_phase_r2 ++ wsX5_phase_r3)) ++ wsX50 ++ wsX30 ++ wsX40 ++ wsX00)
def wsX5_sweep_r1 : List Cond := [Cond.constant RX5 66 (65535), Cond.fieldLink RX5 10 "PhaseTones" "now" "LPhaseTones$Sound;", Cond.fieldLink RX5 67 "PhaseTones$Sound" "wheels" "[LPhaseTones$Wheel;", Cond.fieldLink RX5 103 "PhaseTones$Wheel" "sweeps" "I", Cond.fieldLink RX5 22 "PhaseTones" "history" "LPhaseTones$History;", Cond.methodLink RX5 63 yX5_isNoWheel, Cond.static yX5_isNoWheel, Cond.initialized RX5, Cond.code yX5_isNoWheel cX5_isNoWheel 1 (some .boolean), Cond.methodLink RX5 40 yX5_isOutside, Cond.static yX5_isOutside, Cond.code yX5_isOutside cX5_isOutside 3 (some .boolean), Cond.methodLink RX5 44 yX0_keep, Cond.instanceMethod yX0_keep, Cond.selects RX0 yX0_keep yX0_keep, Cond.initialized RX0, Cond.code yX0_keep cX0_keep 2 none, Cond.fieldLink RX0 11 "PhaseTones$History" "states" "[LPhaseTones$Sound;", Cond.fieldLink RX0 18 "PhaseTones$History" "recorded" "I", Cond.fieldLink RX0 32 "PhaseTones$History" "kept" "I", Cond.methodLink RX0 35 Lib.Math.min.name, Cond.static Lib.Math.min.name, Cond.initialized "java/lang/Math", Cond.code Lib.Math.min.name Lib.Math.min.code 2 (some .int)]
def wsX5_sweep_r2 : List Cond := [Cond.methodLink RX0 22 yJ9_floorMod_7cf53, Cond.static yJ9_floorMod_7cf53, Cond.initialized RJ9, Cond.code yJ9_floorMod_7cf53 cJ9_floorMod_7cf53 3 (some .int), Cond.methodLink RX0 28 yX3_takeOver, Cond.instanceMethod yX3_takeOver, Cond.selects RX3 yX3_takeOver yX3_takeOver, Cond.initialized RX3, Cond.code yX3_takeOver cX3_takeOver 3 none, Cond.fieldLink RX3 9 "PhaseTones$Sound" "limit" "I", Cond.fieldLink RX3 15 "PhaseTones$Sound" "values" "[I", Cond.methodLink RX3 33 arraycopyName, Cond.native arraycopyName, Cond.static arraycopyName, Cond.initialized "java/lang/System", Cond.fieldLink RX3 21 "PhaseTones$Sound" "wheels" "[LPhaseTones$Wheel;", Cond.fieldLink RX3 43 "PhaseTones$Sound" "made" "I", Cond.fieldLink RX3 46 "PhaseTones$Sound" "clipped" "I", Cond.fieldLink RX3 49 "PhaseTones$Sound" "sum" "I", Cond.fieldLink RX3 52 "PhaseTones$Sound" "rises" "I", Cond.fieldLink RX3 25 "PhaseTones$Sound" "latest" "[I", Cond.methodLink RX3 39 yX4_takeOver, Cond.instanceMethod yX4_takeOver, Cond.selects RX4 yX4_takeOver yX4_takeOver]
def wsX5_sweep_r3 : List Cond := [Cond.initialized RX4, Cond.code yX4_takeOver cX4_takeOver 2 none, Cond.fieldLink RX4 25 "PhaseTones$Wheel" "phase" "I", Cond.fieldLink RX4 9 "PhaseTones$Wheel" "step" "I", Cond.fieldLink RX4 28 "PhaseTones$Wheel" "table" "I", Cond.fieldLink RX4 15 "PhaseTones$Wheel" "volume" "I", Cond.fieldLink RX4 31 "PhaseTones$Wheel" "isOn" "Z", Cond.fieldLink RX4 35 "PhaseTones$Wheel" "sweeps" "I", Cond.fieldLink RX4 18 "PhaseTones$Wheel" "ends" "[I", Cond.methodLink RX4 38 arraycopyName, Cond.fieldLink RX4 22 "PhaseTones$Wheel" "lengths" "[I", Cond.fieldLink RX4 44 "PhaseTones$Wheel" "begin" "I", Cond.fieldLink RX4 47 "PhaseTones$Wheel" "gone" "I", Cond.methodLink RX5 106 yX4_addSweep, Cond.instanceMethod yX4_addSweep, Cond.selects RX4 yX4_addSweep yX4_addSweep, Cond.code yX4_addSweep cX4_addSweep 3 (some .boolean), Cond.methodLink RX4 50 yX4_beginSweep, Cond.instanceMethod yX4_beginSweep, Cond.selects RX4 yX4_beginSweep yX4_beginSweep, Cond.code yX4_beginSweep cX4_beginSweep 1 none]
def wsX5_sweep : List Cond := .code yX5_sweep cX5_sweep 4 (some .int) :: ((wsX5_sweep_r1 ++ (wsX5_sweep_r2 ++ wsX5_sweep_r3)) ++ wsX50 ++ wsX30 ++ wsX40 ++ wsX00)
def wsX5_make_r1 : List Cond := [Cond.fieldLink RX5 10 "PhaseTones" "now" "LPhaseTones$Sound;", Cond.fieldLink RX5 22 "PhaseTones" "history" "LPhaseTones$History;", Cond.methodLink RX5 40 yX5_isOutside, Cond.static yX5_isOutside, Cond.initialized RX5, Cond.code yX5_isOutside cX5_isOutside 3 (some .boolean), Cond.methodLink RX5 110 yX3_hasNoRoomFor, Cond.instanceMethod yX3_hasNoRoomFor, Cond.selects RX3 yX3_hasNoRoomFor yX3_hasNoRoomFor, Cond.initialized RX3, Cond.code yX3_hasNoRoomFor cX3_hasNoRoomFor 2 (some .boolean), Cond.constant RX3 78 (999999), Cond.fieldLink RX3 43 "PhaseTones$Sound" "made" "I", Cond.methodLink RX5 44 yX0_keep, Cond.instanceMethod yX0_keep, Cond.selects RX0 yX0_keep yX0_keep, Cond.initialized RX0, Cond.code yX0_keep cX0_keep 2 none, Cond.fieldLink RX0 11 "PhaseTones$History" "states" "[LPhaseTones$Sound;", Cond.fieldLink RX0 18 "PhaseTones$History" "recorded" "I", Cond.fieldLink RX0 32 "PhaseTones$History" "kept" "I", Cond.methodLink RX0 35 Lib.Math.min.name, Cond.static Lib.Math.min.name, Cond.initialized "java/lang/Math"]
def wsX5_make_r2 : List Cond := [Cond.code Lib.Math.min.name Lib.Math.min.code 2 (some .int), Cond.methodLink RX0 22 yJ9_floorMod_7cf53, Cond.static yJ9_floorMod_7cf53, Cond.initialized RJ9, Cond.code yJ9_floorMod_7cf53 cJ9_floorMod_7cf53 3 (some .int), Cond.methodLink RX0 28 yX3_takeOver, Cond.instanceMethod yX3_takeOver, Cond.selects RX3 yX3_takeOver yX3_takeOver, Cond.code yX3_takeOver cX3_takeOver 3 none, Cond.fieldLink RX3 9 "PhaseTones$Sound" "limit" "I", Cond.fieldLink RX3 15 "PhaseTones$Sound" "values" "[I", Cond.methodLink RX3 33 arraycopyName, Cond.native arraycopyName, Cond.static arraycopyName, Cond.initialized "java/lang/System", Cond.fieldLink RX3 21 "PhaseTones$Sound" "wheels" "[LPhaseTones$Wheel;", Cond.fieldLink RX3 46 "PhaseTones$Sound" "clipped" "I", Cond.fieldLink RX3 49 "PhaseTones$Sound" "sum" "I", Cond.fieldLink RX3 52 "PhaseTones$Sound" "rises" "I", Cond.fieldLink RX3 25 "PhaseTones$Sound" "latest" "[I", Cond.methodLink RX3 39 yX4_takeOver, Cond.instanceMethod yX4_takeOver, Cond.selects RX4 yX4_takeOver yX4_takeOver, Cond.initialized RX4]
def wsX5_make_r3 : List Cond := [Cond.code yX4_takeOver cX4_takeOver 2 none, Cond.fieldLink RX4 25 "PhaseTones$Wheel" "phase" "I", Cond.fieldLink RX4 9 "PhaseTones$Wheel" "step" "I", Cond.fieldLink RX4 28 "PhaseTones$Wheel" "table" "I", Cond.fieldLink RX4 15 "PhaseTones$Wheel" "volume" "I", Cond.fieldLink RX4 31 "PhaseTones$Wheel" "isOn" "Z", Cond.fieldLink RX4 35 "PhaseTones$Wheel" "sweeps" "I", Cond.fieldLink RX4 18 "PhaseTones$Wheel" "ends" "[I", Cond.methodLink RX4 38 arraycopyName, Cond.fieldLink RX4 22 "PhaseTones$Wheel" "lengths" "[I", Cond.fieldLink RX4 44 "PhaseTones$Wheel" "begin" "I", Cond.fieldLink RX4 47 "PhaseTones$Wheel" "gone" "I", Cond.methodLink RX5 113 yX3_makeSome, Cond.instanceMethod yX3_makeSome, Cond.selects RX3 yX3_makeSome yX3_makeSome, Cond.code yX3_makeSome cX3_makeSome 3 (some .boolean), Cond.methodLink RX3 79 yX3_hasNoRoomFor, Cond.methodLink RX3 83 yX3_makeOne, Cond.instanceMethod yX3_makeOne, Cond.selects RX3 yX3_makeOne yX3_makeOne, Cond.code yX3_makeOne cX3_makeOne 3 none, Cond.methodLink RX3 89 Lib.Math.min.name, Cond.fieldLink RX3 29 "PhaseTones$Wheel" "isOn" "Z", Cond.methodLink RX3 86 yX3_sumOfOn]
def wsX5_make_r4 : List Cond := [Cond.instanceMethod yX3_sumOfOn, Cond.selects RX3 yX3_sumOfOn yX3_sumOfOn, Cond.code yX3_sumOfOn cX3_sumOfOn 3 (some .int), Cond.methodLink RX3 64 yX3_valueGivenBy, Cond.instanceMethod yX3_valueGivenBy, Cond.selects RX3 yX3_valueGivenBy yX3_valueGivenBy, Cond.code yX3_valueGivenBy cX3_valueGivenBy 3 (some .int), Cond.fieldLink RX3 55 "PhaseTones$Wheel" "table" "I", Cond.fieldLink RX3 58 "PhaseTones$Wheel" "phase" "I", Cond.fieldLink RX3 61 "PhaseTones$Wheel" "volume" "I", Cond.methodLink RX3 92 yX3_keepMixture, Cond.instanceMethod yX3_keepMixture, Cond.selects RX3 yX3_keepMixture yX3_keepMixture, Cond.code yX3_keepMixture cX3_keepMixture 2 none, Cond.constant RX3 103 (1000003), Cond.methodLink RX3 99 yX3_mixtureAgo, Cond.instanceMethod yX3_mixtureAgo, Cond.selects RX3 yX3_mixtureAgo yX3_mixtureAgo, Cond.code yX3_mixtureAgo cX3_mixtureAgo 2 (some .int), Cond.methodLink RX3 104 yJ9_floorMod_7cf53, Cond.methodLink RX3 96 yX4_goOn, Cond.instanceMethod yX4_goOn, Cond.selects RX4 yX4_goOn yX4_goOn, Cond.code yX4_goOn cX4_goOn 1 none]
def wsX5_make_r5 : List Cond := [Cond.constant RX4 53 (65536), Cond.methodLink RX4 54 yX4_goOnSweeping, Cond.instanceMethod yX4_goOnSweeping, Cond.selects RX4 yX4_goOnSweeping yX4_goOnSweeping, Cond.code yX4_goOnSweeping cX4_goOnSweeping 2 none, Cond.methodLink RX4 57 yX4_dropFirstSweep, Cond.instanceMethod yX4_dropFirstSweep, Cond.selects RX4 yX4_dropFirstSweep yX4_dropFirstSweep, Cond.code yX4_dropFirstSweep cX4_dropFirstSweep 2 none, Cond.methodLink RX4 50 yX4_beginSweep, Cond.instanceMethod yX4_beginSweep, Cond.selects RX4 yX4_beginSweep yX4_beginSweep, Cond.code yX4_beginSweep cX4_beginSweep 1 none, Cond.methodLink RX5 116 yX3_mixtureAgo]
def wsX5_make : List Cond := .code yX5_make cX5_make 2 (some .int) :: ((wsX5_make_r1 ++ (wsX5_make_r2 ++ (wsX5_make_r3 ++ (wsX5_make_r4 ++ wsX5_make_r5)))) ++ wsX50 ++ wsX30 ++ wsX00 ++ wsX40)
def wsX5_wheel_r1 : List Cond := [Cond.fieldLink RX5 10 "PhaseTones" "now" "LPhaseTones$Sound;", Cond.fieldLink RX5 67 "PhaseTones$Sound" "wheels" "[LPhaseTones$Wheel;", Cond.fieldLink RX5 100 "PhaseTones$Wheel" "phase" "I", Cond.fieldLink RX5 71 "PhaseTones$Wheel" "step" "I", Cond.fieldLink RX5 80 "PhaseTones$Wheel" "table" "I", Cond.fieldLink RX5 83 "PhaseTones$Wheel" "volume" "I", Cond.fieldLink RX5 86 "PhaseTones$Wheel" "isOn" "Z", Cond.fieldLink RX5 103 "PhaseTones$Wheel" "sweeps" "I", Cond.methodLink RX5 63 yX5_isNoWheel, Cond.static yX5_isNoWheel, Cond.initialized RX5, Cond.code yX5_isNoWheel cX5_isNoWheel 1 (some .boolean), Cond.methodLink RX5 40 yX5_isOutside, Cond.static yX5_isOutside, Cond.code yX5_isOutside cX5_isOutside 3 (some .boolean), Cond.methodLink RX5 138 yX3_valueGivenBy, Cond.instanceMethod yX3_valueGivenBy, Cond.selects RX3 yX3_valueGivenBy yX3_valueGivenBy, Cond.initialized RX3, Cond.code yX3_valueGivenBy cX3_valueGivenBy 3 (some .int), Cond.fieldLink RX3 55 "PhaseTones$Wheel" "table" "I", Cond.fieldLink RX3 58 "PhaseTones$Wheel" "phase" "I", Cond.fieldLink RX3 15 "PhaseTones$Sound" "values" "[I", Cond.fieldLink RX3 61 "PhaseTones$Wheel" "volume" "I"]
def wsX5_wheel_r2 : List Cond := [Cond.methodLink RX5 142 yX4_image, Cond.instanceMethod yX4_image, Cond.selects RX4 yX4_image yX4_image, Cond.initialized RX4, Cond.code yX4_image cX4_image 1 (some .int), Cond.fieldLink RX4 9 "PhaseTones$Wheel" "step" "I", Cond.constant RX4 60 (32768), Cond.constant RX4 53 (65536), Cond.methodLink RX5 145 yX4_samplesOfARound, Cond.instanceMethod yX4_samplesOfARound, Cond.selects RX4 yX4_samplesOfARound yX4_samplesOfARound, Cond.code yX4_samplesOfARound cX4_samplesOfARound 2 (some .int), Cond.methodLink RX5 148 yX4_samplesOfSweeps, Cond.instanceMethod yX4_samplesOfSweeps, Cond.selects RX4 yX4_samplesOfSweeps yX4_samplesOfSweeps, Cond.code yX4_samplesOfSweeps cX4_samplesOfSweeps 3 (some .int), Cond.fieldLink RX4 35 "PhaseTones$Wheel" "sweeps" "I", Cond.fieldLink RX4 22 "PhaseTones$Wheel" "lengths" "[I", Cond.fieldLink RX4 47 "PhaseTones$Wheel" "gone" "I", Cond.methodLink RX5 151 yX4_lastStep, Cond.instanceMethod yX4_lastStep, Cond.selects RX4 yX4_lastStep yX4_lastStep, Cond.code yX4_lastStep cX4_lastStep 1 (some .int), Cond.fieldLink RX4 18 "PhaseTones$Wheel" "ends" "[I"]
def wsX5_wheel : List Cond := .code yX5_wheel cX5_wheel 4 (some .int) :: ((wsX5_wheel_r1 ++ wsX5_wheel_r2) ++ wsX50 ++ wsX30 ++ wsX40)
def wsX5_valueOf : List Cond := .code yX5_valueOf cX5_valueOf 3 (some .int) :: ([.fieldLink RX5 10 "PhaseTones" "now" "LPhaseTones$Sound;", .fieldLink RX5 59 "PhaseTones$Sound" "values" "[I", .methodLink RX5 52 yX5_isNoTable, .static yX5_isNoTable, .initialized RX5, .code yX5_isNoTable cX5_isNoTable 1 (some .boolean), .methodLink RX5 40 yX5_isOutside, .static yX5_isOutside, .code yX5_isOutside cX5_isOutside 3 (some .boolean), .methodLink RX5 56 yX5_isNoPlace, .static yX5_isNoPlace, .code yX5_isNoPlace cX5_isNoPlace 1 (some .boolean)] ++ wsX50 ++ wsX30)
def wsX5_sample : List Cond := .code yX5_sample cX5_sample 2 (some .int) :: ([.fieldLink RX5 10 "PhaseTones" "now" "LPhaseTones$Sound;", .fieldLink RX5 154 "PhaseTones$Sound" "made" "I", .methodLink RX5 40 yX5_isOutside, .static yX5_isOutside, .initialized RX5, .code yX5_isOutside cX5_isOutside 3 (some .boolean), .methodLink RX5 116 yX3_mixtureAgo, .instanceMethod yX3_mixtureAgo, .selects RX3 yX3_mixtureAgo yX3_mixtureAgo, .initialized RX3, .code yX3_mixtureAgo cX3_mixtureAgo 2 (some .int), .fieldLink RX3 25 "PhaseTones$Sound" "latest" "[I", .fieldLink RX3 43 "PhaseTones$Sound" "made" "I", .methodLink RX3 104 yJ9_floorMod_7cf53, .static yJ9_floorMod_7cf53, .initialized RJ9, .code yJ9_floorMod_7cf53 cJ9_floorMod_7cf53 3 (some .int)] ++ wsX50 ++ wsX30)
def wsX5_beat : List Cond := .code yX5_beat cX5_beat 3 (some .int) :: ([.fieldLink RX5 10 "PhaseTones" "now" "LPhaseTones$Sound;", .fieldLink RX5 67 "PhaseTones$Sound" "wheels" "[LPhaseTones$Wheel;", .methodLink RX5 157 Lib.Math.abs.name, .static Lib.Math.abs.name, .initialized "java/lang/Math", .code Lib.Math.abs.name Lib.Math.abs.code 1 (some .int), .methodLink RX5 63 yX5_isNoWheel, .static yX5_isNoWheel, .initialized RX5, .code yX5_isNoWheel cX5_isNoWheel 1 (some .boolean), .methodLink RX5 40 yX5_isOutside, .static yX5_isOutside, .code yX5_isOutside cX5_isOutside 3 (some .boolean), .methodLink RX5 142 yX4_image, .instanceMethod yX4_image, .selects RX4 yX4_image yX4_image, .initialized RX4, .code yX4_image cX4_image 1 (some .int), .fieldLink RX4 9 "PhaseTones$Wheel" "step" "I", .constant RX4 60 (32768), .constant RX4 53 (65536)] ++ wsX50 ++ wsX30 ++ wsX40)
def wsX5_count_r1 : List Cond := [Cond.fieldLink RX5 10 "PhaseTones" "now" "LPhaseTones$Sound;", Cond.fieldLink RX5 48 "PhaseTones$Sound" "limit" "I", Cond.fieldLink RX5 154 "PhaseTones$Sound" "made" "I", Cond.fieldLink RX5 162 "PhaseTones$Sound" "clipped" "I", Cond.methodLink RX5 168 Lib.Math.min.name, Cond.static Lib.Math.min.name, Cond.initialized "java/lang/Math", Cond.code Lib.Math.min.name Lib.Math.min.code 2 (some .int), Cond.fieldLink RX5 172 "PhaseTones$Sound" "sum" "I", Cond.fieldLink RX5 175 "PhaseTones$Sound" "rises" "I", Cond.fieldLink RX5 36 "PhaseTones" "pad" "LPhaseTones$Pad;", Cond.fieldLink RX5 135 "PhaseTones$Pad" "length" "I", Cond.fieldLink RX5 22 "PhaseTones" "history" "LPhaseTones$History;", Cond.fieldLink RX5 181 "PhaseTones$History" "kept" "I", Cond.methodLink RX5 90 yX3_maskOfOn, Cond.instanceMethod yX3_maskOfOn, Cond.selects RX3 yX3_maskOfOn yX3_maskOfOn, Cond.initialized RX3, Cond.code yX3_maskOfOn cX3_maskOfOn 3 (some .int), Cond.fieldLink RX3 21 "PhaseTones$Sound" "wheels" "[LPhaseTones$Wheel;", Cond.fieldLink RX3 29 "PhaseTones$Wheel" "isOn" "Z", Cond.methodLink RX5 165 yX3_sumOfOn, Cond.instanceMethod yX3_sumOfOn, Cond.selects RX3 yX3_sumOfOn yX3_sumOfOn]
def wsX5_count_r2 : List Cond := [Cond.code yX3_sumOfOn cX3_sumOfOn 3 (some .int), Cond.methodLink RX3 64 yX3_valueGivenBy, Cond.instanceMethod yX3_valueGivenBy, Cond.selects RX3 yX3_valueGivenBy yX3_valueGivenBy, Cond.code yX3_valueGivenBy cX3_valueGivenBy 3 (some .int), Cond.fieldLink RX3 55 "PhaseTones$Wheel" "table" "I", Cond.fieldLink RX3 58 "PhaseTones$Wheel" "phase" "I", Cond.fieldLink RX3 15 "PhaseTones$Sound" "values" "[I", Cond.fieldLink RX3 61 "PhaseTones$Wheel" "volume" "I", Cond.methodLink RX5 178 yX3_samplesOfARoundOfAll, Cond.instanceMethod yX3_samplesOfARoundOfAll, Cond.selects RX3 yX3_samplesOfARoundOfAll yX3_samplesOfARoundOfAll, Cond.code yX3_samplesOfARoundOfAll cX3_samplesOfARoundOfAll 3 (some .int), Cond.methodLink RX3 72 Lib.Math.max.name, Cond.static Lib.Math.max.name, Cond.code Lib.Math.max.name Lib.Math.max.code 2 (some .int), Cond.methodLink RX3 68 yX4_samplesOfARound, Cond.instanceMethod yX4_samplesOfARound, Cond.selects RX4 yX4_samplesOfARound yX4_samplesOfARound, Cond.initialized RX4, Cond.code yX4_samplesOfARound cX4_samplesOfARound 2 (some .int), Cond.fieldLink RX4 9 "PhaseTones$Wheel" "step" "I", Cond.constant RX4 53 (65536)]
def wsX5_count : List Cond := .code yX5_count cX5_count 2 (some .int) :: ((wsX5_count_r1 ++ wsX5_count_r2) ++ wsX50 ++ wsX30 ++ wsX10 ++ wsX00 ++ wsX40)
def wsX5_ifMade_r1 : List Cond := [Cond.fieldLink RX5 16 "PhaseTones" "trial" "LPhaseTones$Sound;", Cond.fieldLink RX5 10 "PhaseTones" "now" "LPhaseTones$Sound;", Cond.methodLink RX5 190 Lib.Math.max.name, Cond.static Lib.Math.max.name, Cond.initialized "java/lang/Math", Cond.code Lib.Math.max.name Lib.Math.max.code 2 (some .int), Cond.methodLink RX5 168 Lib.Math.min.name, Cond.static Lib.Math.min.name, Cond.code Lib.Math.min.name Lib.Math.min.code 2 (some .int), Cond.fieldLink RX5 162 "PhaseTones$Sound" "clipped" "I", Cond.methodLink RX5 40 yX5_isOutside, Cond.static yX5_isOutside, Cond.initialized RX5, Cond.code yX5_isOutside cX5_isOutside 3 (some .boolean), Cond.methodLink RX5 184 yX3_takeOver, Cond.instanceMethod yX3_takeOver, Cond.selects RX3 yX3_takeOver yX3_takeOver, Cond.initialized RX3, Cond.code yX3_takeOver cX3_takeOver 3 none, Cond.fieldLink RX3 9 "PhaseTones$Sound" "limit" "I", Cond.fieldLink RX3 15 "PhaseTones$Sound" "values" "[I", Cond.methodLink RX3 33 arraycopyName, Cond.native arraycopyName, Cond.static arraycopyName]
def wsX5_ifMade_r2 : List Cond := [Cond.initialized "java/lang/System", Cond.fieldLink RX3 21 "PhaseTones$Sound" "wheels" "[LPhaseTones$Wheel;", Cond.fieldLink RX3 43 "PhaseTones$Sound" "made" "I", Cond.fieldLink RX3 46 "PhaseTones$Sound" "clipped" "I", Cond.fieldLink RX3 49 "PhaseTones$Sound" "sum" "I", Cond.fieldLink RX3 52 "PhaseTones$Sound" "rises" "I", Cond.fieldLink RX3 25 "PhaseTones$Sound" "latest" "[I", Cond.methodLink RX3 39 yX4_takeOver, Cond.instanceMethod yX4_takeOver, Cond.selects RX4 yX4_takeOver yX4_takeOver, Cond.initialized RX4, Cond.code yX4_takeOver cX4_takeOver 2 none, Cond.fieldLink RX4 25 "PhaseTones$Wheel" "phase" "I", Cond.fieldLink RX4 9 "PhaseTones$Wheel" "step" "I", Cond.fieldLink RX4 28 "PhaseTones$Wheel" "table" "I", Cond.fieldLink RX4 15 "PhaseTones$Wheel" "volume" "I", Cond.fieldLink RX4 31 "PhaseTones$Wheel" "isOn" "Z", Cond.fieldLink RX4 35 "PhaseTones$Wheel" "sweeps" "I", Cond.fieldLink RX4 18 "PhaseTones$Wheel" "ends" "[I", Cond.methodLink RX4 38 arraycopyName, Cond.fieldLink RX4 22 "PhaseTones$Wheel" "lengths" "[I", Cond.fieldLink RX4 44 "PhaseTones$Wheel" "begin" "I", Cond.fieldLink RX4 47 "PhaseTones$Wheel" "gone" "I", Cond.methodLink RX5 187 yX3_makeOne]
def wsX5_ifMade_r3 : List Cond := [Cond.instanceMethod yX3_makeOne, Cond.selects RX3 yX3_makeOne yX3_makeOne, Cond.code yX3_makeOne cX3_makeOne 3 none, Cond.methodLink RX3 89 Lib.Math.min.name, Cond.fieldLink RX3 29 "PhaseTones$Wheel" "isOn" "Z", Cond.methodLink RX3 86 yX3_sumOfOn, Cond.instanceMethod yX3_sumOfOn, Cond.selects RX3 yX3_sumOfOn yX3_sumOfOn, Cond.code yX3_sumOfOn cX3_sumOfOn 3 (some .int), Cond.methodLink RX3 64 yX3_valueGivenBy, Cond.instanceMethod yX3_valueGivenBy, Cond.selects RX3 yX3_valueGivenBy yX3_valueGivenBy, Cond.code yX3_valueGivenBy cX3_valueGivenBy 3 (some .int), Cond.fieldLink RX3 55 "PhaseTones$Wheel" "table" "I", Cond.fieldLink RX3 58 "PhaseTones$Wheel" "phase" "I", Cond.fieldLink RX3 61 "PhaseTones$Wheel" "volume" "I", Cond.methodLink RX3 92 yX3_keepMixture, Cond.instanceMethod yX3_keepMixture, Cond.selects RX3 yX3_keepMixture yX3_keepMixture, Cond.code yX3_keepMixture cX3_keepMixture 2 none, Cond.constant RX3 103 (1000003), Cond.methodLink RX3 99 yX3_mixtureAgo, Cond.instanceMethod yX3_mixtureAgo, Cond.selects RX3 yX3_mixtureAgo yX3_mixtureAgo]
def wsX5_ifMade_r4 : List Cond := [Cond.code yX3_mixtureAgo cX3_mixtureAgo 2 (some .int), Cond.methodLink RX3 104 yJ9_floorMod_7cf53, Cond.static yJ9_floorMod_7cf53, Cond.initialized RJ9, Cond.code yJ9_floorMod_7cf53 cJ9_floorMod_7cf53 3 (some .int), Cond.methodLink RX3 96 yX4_goOn, Cond.instanceMethod yX4_goOn, Cond.selects RX4 yX4_goOn yX4_goOn, Cond.code yX4_goOn cX4_goOn 1 none, Cond.constant RX4 53 (65536), Cond.methodLink RX4 54 yX4_goOnSweeping, Cond.instanceMethod yX4_goOnSweeping, Cond.selects RX4 yX4_goOnSweeping yX4_goOnSweeping, Cond.code yX4_goOnSweeping cX4_goOnSweeping 2 none, Cond.methodLink RX4 57 yX4_dropFirstSweep, Cond.instanceMethod yX4_dropFirstSweep, Cond.selects RX4 yX4_dropFirstSweep yX4_dropFirstSweep, Cond.code yX4_dropFirstSweep cX4_dropFirstSweep 2 none, Cond.methodLink RX4 50 yX4_beginSweep, Cond.instanceMethod yX4_beginSweep, Cond.selects RX4 yX4_beginSweep yX4_beginSweep, Cond.code yX4_beginSweep cX4_beginSweep 1 none, Cond.methodLink RX5 116 yX3_mixtureAgo]
def wsX5_ifMade : List Cond := .code yX5_ifMade cX5_ifMade 6 (some .int) :: ((wsX5_ifMade_r1 ++ (wsX5_ifMade_r2 ++ (wsX5_ifMade_r3 ++ wsX5_ifMade_r4))) ++ wsX50 ++ wsX30 ++ wsX40)
def wsX5_untilClip_r1 : List Cond := [Cond.fieldLink RX5 16 "PhaseTones" "trial" "LPhaseTones$Sound;", Cond.fieldLink RX5 10 "PhaseTones" "now" "LPhaseTones$Sound;", Cond.fieldLink RX5 162 "PhaseTones$Sound" "clipped" "I", Cond.methodLink RX5 184 yX3_takeOver, Cond.instanceMethod yX3_takeOver, Cond.selects RX3 yX3_takeOver yX3_takeOver, Cond.initialized RX3, Cond.code yX3_takeOver cX3_takeOver 3 none, Cond.fieldLink RX3 9 "PhaseTones$Sound" "limit" "I", Cond.fieldLink RX3 15 "PhaseTones$Sound" "values" "[I", Cond.methodLink RX3 33 arraycopyName, Cond.native arraycopyName, Cond.static arraycopyName, Cond.initialized "java/lang/System", Cond.fieldLink RX3 21 "PhaseTones$Sound" "wheels" "[LPhaseTones$Wheel;", Cond.fieldLink RX3 43 "PhaseTones$Sound" "made" "I", Cond.fieldLink RX3 46 "PhaseTones$Sound" "clipped" "I", Cond.fieldLink RX3 49 "PhaseTones$Sound" "sum" "I", Cond.fieldLink RX3 52 "PhaseTones$Sound" "rises" "I", Cond.fieldLink RX3 25 "PhaseTones$Sound" "latest" "[I", Cond.methodLink RX3 39 yX4_takeOver, Cond.instanceMethod yX4_takeOver, Cond.selects RX4 yX4_takeOver yX4_takeOver, Cond.initialized RX4]
def wsX5_untilClip_r2 : List Cond := [Cond.code yX4_takeOver cX4_takeOver 2 none, Cond.fieldLink RX4 25 "PhaseTones$Wheel" "phase" "I", Cond.fieldLink RX4 9 "PhaseTones$Wheel" "step" "I", Cond.fieldLink RX4 28 "PhaseTones$Wheel" "table" "I", Cond.fieldLink RX4 15 "PhaseTones$Wheel" "volume" "I", Cond.fieldLink RX4 31 "PhaseTones$Wheel" "isOn" "Z", Cond.fieldLink RX4 35 "PhaseTones$Wheel" "sweeps" "I", Cond.fieldLink RX4 18 "PhaseTones$Wheel" "ends" "[I", Cond.methodLink RX4 38 arraycopyName, Cond.fieldLink RX4 22 "PhaseTones$Wheel" "lengths" "[I", Cond.fieldLink RX4 44 "PhaseTones$Wheel" "begin" "I", Cond.fieldLink RX4 47 "PhaseTones$Wheel" "gone" "I", Cond.methodLink RX5 187 yX3_makeOne, Cond.instanceMethod yX3_makeOne, Cond.selects RX3 yX3_makeOne yX3_makeOne, Cond.code yX3_makeOne cX3_makeOne 3 none, Cond.methodLink RX3 89 Lib.Math.min.name, Cond.static Lib.Math.min.name, Cond.initialized "java/lang/Math", Cond.code Lib.Math.min.name Lib.Math.min.code 2 (some .int), Cond.fieldLink RX3 29 "PhaseTones$Wheel" "isOn" "Z", Cond.methodLink RX3 86 yX3_sumOfOn, Cond.instanceMethod yX3_sumOfOn, Cond.selects RX3 yX3_sumOfOn yX3_sumOfOn]
def wsX5_untilClip_r3 : List Cond := [Cond.code yX3_sumOfOn cX3_sumOfOn 3 (some .int), Cond.methodLink RX3 64 yX3_valueGivenBy, Cond.instanceMethod yX3_valueGivenBy, Cond.selects RX3 yX3_valueGivenBy yX3_valueGivenBy, Cond.code yX3_valueGivenBy cX3_valueGivenBy 3 (some .int), Cond.fieldLink RX3 55 "PhaseTones$Wheel" "table" "I", Cond.fieldLink RX3 58 "PhaseTones$Wheel" "phase" "I", Cond.fieldLink RX3 61 "PhaseTones$Wheel" "volume" "I", Cond.methodLink RX3 92 yX3_keepMixture, Cond.instanceMethod yX3_keepMixture, Cond.selects RX3 yX3_keepMixture yX3_keepMixture, Cond.code yX3_keepMixture cX3_keepMixture 2 none, Cond.constant RX3 103 (1000003), Cond.methodLink RX3 99 yX3_mixtureAgo, Cond.instanceMethod yX3_mixtureAgo, Cond.selects RX3 yX3_mixtureAgo yX3_mixtureAgo, Cond.code yX3_mixtureAgo cX3_mixtureAgo 2 (some .int), Cond.methodLink RX3 104 yJ9_floorMod_7cf53, Cond.static yJ9_floorMod_7cf53, Cond.initialized RJ9, Cond.code yJ9_floorMod_7cf53 cJ9_floorMod_7cf53 3 (some .int), Cond.methodLink RX3 96 yX4_goOn, Cond.instanceMethod yX4_goOn, Cond.selects RX4 yX4_goOn yX4_goOn]
def wsX5_untilClip_r4 : List Cond := [Cond.code yX4_goOn cX4_goOn 1 none, Cond.constant RX4 53 (65536), Cond.methodLink RX4 54 yX4_goOnSweeping, Cond.instanceMethod yX4_goOnSweeping, Cond.selects RX4 yX4_goOnSweeping yX4_goOnSweeping, Cond.code yX4_goOnSweeping cX4_goOnSweeping 2 none, Cond.methodLink RX4 57 yX4_dropFirstSweep, Cond.instanceMethod yX4_dropFirstSweep, Cond.selects RX4 yX4_dropFirstSweep yX4_dropFirstSweep, Cond.code yX4_dropFirstSweep cX4_dropFirstSweep 2 none, Cond.methodLink RX4 50 yX4_beginSweep, Cond.instanceMethod yX4_beginSweep, Cond.selects RX4 yX4_beginSweep yX4_beginSweep, Cond.code yX4_beginSweep cX4_beginSweep 1 none]
def wsX5_untilClip : List Cond := .code yX5_untilClip cX5_untilClip 2 (some .int) :: ((wsX5_untilClip_r1 ++ (wsX5_untilClip_r2 ++ (wsX5_untilClip_r3 ++ wsX5_untilClip_r4))) ++ wsX50 ++ wsX30 ++ wsX40)
def wsX5_untilRound_r1 : List Cond := [Cond.fieldLink RX5 16 "PhaseTones" "trial" "LPhaseTones$Sound;", Cond.fieldLink RX5 10 "PhaseTones" "now" "LPhaseTones$Sound;", Cond.fieldLink RX5 67 "PhaseTones$Sound" "wheels" "[LPhaseTones$Wheel;", Cond.methodLink RX5 63 yX5_isNoWheel, Cond.static yX5_isNoWheel, Cond.initialized RX5, Cond.code yX5_isNoWheel cX5_isNoWheel 1 (some .boolean), Cond.methodLink RX5 40 yX5_isOutside, Cond.static yX5_isOutside, Cond.code yX5_isOutside cX5_isOutside 3 (some .boolean), Cond.methodLink RX5 184 yX3_takeOver, Cond.instanceMethod yX3_takeOver, Cond.selects RX3 yX3_takeOver yX3_takeOver, Cond.initialized RX3, Cond.code yX3_takeOver cX3_takeOver 3 none, Cond.fieldLink RX3 9 "PhaseTones$Sound" "limit" "I", Cond.fieldLink RX3 15 "PhaseTones$Sound" "values" "[I", Cond.methodLink RX3 33 arraycopyName, Cond.native arraycopyName, Cond.static arraycopyName, Cond.initialized "java/lang/System", Cond.fieldLink RX3 21 "PhaseTones$Sound" "wheels" "[LPhaseTones$Wheel;", Cond.fieldLink RX3 43 "PhaseTones$Sound" "made" "I", Cond.fieldLink RX3 46 "PhaseTones$Sound" "clipped" "I"]
def wsX5_untilRound_r2 : List Cond := [Cond.fieldLink RX3 49 "PhaseTones$Sound" "sum" "I", Cond.fieldLink RX3 52 "PhaseTones$Sound" "rises" "I", Cond.fieldLink RX3 25 "PhaseTones$Sound" "latest" "[I", Cond.methodLink RX3 39 yX4_takeOver, Cond.instanceMethod yX4_takeOver, Cond.selects RX4 yX4_takeOver yX4_takeOver, Cond.initialized RX4, Cond.code yX4_takeOver cX4_takeOver 2 none, Cond.fieldLink RX4 25 "PhaseTones$Wheel" "phase" "I", Cond.fieldLink RX4 9 "PhaseTones$Wheel" "step" "I", Cond.fieldLink RX4 28 "PhaseTones$Wheel" "table" "I", Cond.fieldLink RX4 15 "PhaseTones$Wheel" "volume" "I", Cond.fieldLink RX4 31 "PhaseTones$Wheel" "isOn" "Z", Cond.fieldLink RX4 35 "PhaseTones$Wheel" "sweeps" "I", Cond.fieldLink RX4 18 "PhaseTones$Wheel" "ends" "[I", Cond.methodLink RX4 38 arraycopyName, Cond.fieldLink RX4 22 "PhaseTones$Wheel" "lengths" "[I", Cond.fieldLink RX4 44 "PhaseTones$Wheel" "begin" "I", Cond.fieldLink RX4 47 "PhaseTones$Wheel" "gone" "I", Cond.methodLink RX5 195 yX4_goRound, Cond.instanceMethod yX4_goRound, Cond.selects RX4 yX4_goRound yX4_goRound, Cond.code yX4_goRound cX4_goRound 3 (some .int), Cond.constant RX4 61 (70000)]
def wsX5_untilRound_r3 : List Cond := [Cond.constant RX4 65 (65535), Cond.methodLink RX4 62 yX4_goOn, Cond.instanceMethod yX4_goOn, Cond.selects RX4 yX4_goOn yX4_goOn, Cond.code yX4_goOn cX4_goOn 1 none, Cond.constant RX4 53 (65536), Cond.methodLink RX4 54 yX4_goOnSweeping, Cond.instanceMethod yX4_goOnSweeping, Cond.selects RX4 yX4_goOnSweeping yX4_goOnSweeping, Cond.code yX4_goOnSweeping cX4_goOnSweeping 2 none, Cond.methodLink RX4 57 yX4_dropFirstSweep, Cond.instanceMethod yX4_dropFirstSweep, Cond.selects RX4 yX4_dropFirstSweep yX4_dropFirstSweep, Cond.code yX4_dropFirstSweep cX4_dropFirstSweep 2 none, Cond.methodLink RX4 50 yX4_beginSweep, Cond.instanceMethod yX4_beginSweep, Cond.selects RX4 yX4_beginSweep yX4_beginSweep, Cond.code yX4_beginSweep cX4_beginSweep 1 none]
def wsX5_untilRound : List Cond := .code yX5_untilRound cX5_untilRound 2 (some .int) :: ((wsX5_untilRound_r1 ++ (wsX5_untilRound_r2 ++ wsX5_untilRound_r3)) ++ wsX50 ++ wsX30 ++ wsX40)
def wsX5_undo_r1 : List Cond := [Cond.fieldLink RX5 22 "PhaseTones" "history" "LPhaseTones$History;", Cond.fieldLink RX5 181 "PhaseTones$History" "kept" "I", Cond.fieldLink RX5 10 "PhaseTones" "now" "LPhaseTones$Sound;", Cond.methodLink RX5 208 yX0_bringBack, Cond.instanceMethod yX0_bringBack, Cond.selects RX0 yX0_bringBack yX0_bringBack, Cond.initialized RX0, Cond.code yX0_bringBack cX0_bringBack 2 none, Cond.fieldLink RX0 18 "PhaseTones$History" "recorded" "I", Cond.fieldLink RX0 32 "PhaseTones$History" "kept" "I", Cond.methodLink RX0 38 Lib.Math.max.name, Cond.static Lib.Math.max.name, Cond.initialized "java/lang/Math", Cond.code Lib.Math.max.name Lib.Math.max.code 2 (some .int), Cond.fieldLink RX0 11 "PhaseTones$History" "states" "[LPhaseTones$Sound;", Cond.methodLink RX0 22 yJ9_floorMod_7cf53, Cond.static yJ9_floorMod_7cf53, Cond.initialized RJ9, Cond.code yJ9_floorMod_7cf53 cJ9_floorMod_7cf53 3 (some .int), Cond.methodLink RX0 28 yX3_takeOver, Cond.instanceMethod yX3_takeOver, Cond.selects RX3 yX3_takeOver yX3_takeOver, Cond.initialized RX3, Cond.code yX3_takeOver cX3_takeOver 3 none]
def wsX5_undo_r2 : List Cond := [Cond.fieldLink RX3 9 "PhaseTones$Sound" "limit" "I", Cond.fieldLink RX3 15 "PhaseTones$Sound" "values" "[I", Cond.methodLink RX3 33 arraycopyName, Cond.native arraycopyName, Cond.static arraycopyName, Cond.initialized "java/lang/System", Cond.fieldLink RX3 21 "PhaseTones$Sound" "wheels" "[LPhaseTones$Wheel;", Cond.fieldLink RX3 43 "PhaseTones$Sound" "made" "I", Cond.fieldLink RX3 46 "PhaseTones$Sound" "clipped" "I", Cond.fieldLink RX3 49 "PhaseTones$Sound" "sum" "I", Cond.fieldLink RX3 52 "PhaseTones$Sound" "rises" "I", Cond.fieldLink RX3 25 "PhaseTones$Sound" "latest" "[I", Cond.methodLink RX3 39 yX4_takeOver, Cond.instanceMethod yX4_takeOver, Cond.selects RX4 yX4_takeOver yX4_takeOver, Cond.initialized RX4, Cond.code yX4_takeOver cX4_takeOver 2 none, Cond.fieldLink RX4 25 "PhaseTones$Wheel" "phase" "I", Cond.fieldLink RX4 9 "PhaseTones$Wheel" "step" "I", Cond.fieldLink RX4 28 "PhaseTones$Wheel" "table" "I", Cond.fieldLink RX4 15 "PhaseTones$Wheel" "volume" "I", Cond.fieldLink RX4 31 "PhaseTones$Wheel" "isOn" "Z", Cond.fieldLink RX4 35 "PhaseTones$Wheel" "sweeps" "I", Cond.fieldLink RX4 18 "PhaseTones$Wheel" "ends" "[I"]
def wsX5_undo_r3 : List Cond := [Cond.methodLink RX4 38 arraycopyName, Cond.fieldLink RX4 22 "PhaseTones$Wheel" "lengths" "[I", Cond.fieldLink RX4 44 "PhaseTones$Wheel" "begin" "I", Cond.fieldLink RX4 47 "PhaseTones$Wheel" "gone" "I"]
def wsX5_undo : List Cond := .code yX5_undo cX5_undo 1 (some .int) :: ((wsX5_undo_r1 ++ (wsX5_undo_r2 ++ wsX5_undo_r3)) ++ wsX50 ++ wsX00 ++ wsX30 ++ wsX40)
def wsX5_save_r1 : List Cond := [Cond.fieldLink RX5 29 "PhaseTones" "slots" "LPhaseTones$Slots;", Cond.fieldLink RX5 211 "PhaseTones$Slots" "sounds" "[LPhaseTones$Sound;", Cond.fieldLink RX5 10 "PhaseTones" "now" "LPhaseTones$Sound;", Cond.fieldLink RX5 215 "PhaseTones$Slots" "isSaved" "[Z", Cond.fieldLink RX5 154 "PhaseTones$Sound" "made" "I", Cond.methodLink RX5 40 yX5_isOutside, Cond.static yX5_isOutside, Cond.initialized RX5, Cond.code yX5_isOutside cX5_isOutside 3 (some .boolean), Cond.methodLink RX5 184 yX3_takeOver, Cond.instanceMethod yX3_takeOver, Cond.selects RX3 yX3_takeOver yX3_takeOver, Cond.initialized RX3, Cond.code yX3_takeOver cX3_takeOver 3 none, Cond.fieldLink RX3 9 "PhaseTones$Sound" "limit" "I", Cond.fieldLink RX3 15 "PhaseTones$Sound" "values" "[I", Cond.methodLink RX3 33 arraycopyName, Cond.native arraycopyName, Cond.static arraycopyName, Cond.initialized "java/lang/System", Cond.fieldLink RX3 21 "PhaseTones$Sound" "wheels" "[LPhaseTones$Wheel;", Cond.fieldLink RX3 43 "PhaseTones$Sound" "made" "I", Cond.fieldLink RX3 46 "PhaseTones$Sound" "clipped" "I", Cond.fieldLink RX3 49 "PhaseTones$Sound" "sum" "I"]
def wsX5_save_r2 : List Cond := [Cond.fieldLink RX3 52 "PhaseTones$Sound" "rises" "I", Cond.fieldLink RX3 25 "PhaseTones$Sound" "latest" "[I", Cond.methodLink RX3 39 yX4_takeOver, Cond.instanceMethod yX4_takeOver, Cond.selects RX4 yX4_takeOver yX4_takeOver, Cond.initialized RX4, Cond.code yX4_takeOver cX4_takeOver 2 none, Cond.fieldLink RX4 25 "PhaseTones$Wheel" "phase" "I", Cond.fieldLink RX4 9 "PhaseTones$Wheel" "step" "I", Cond.fieldLink RX4 28 "PhaseTones$Wheel" "table" "I", Cond.fieldLink RX4 15 "PhaseTones$Wheel" "volume" "I", Cond.fieldLink RX4 31 "PhaseTones$Wheel" "isOn" "Z", Cond.fieldLink RX4 35 "PhaseTones$Wheel" "sweeps" "I", Cond.fieldLink RX4 18 "PhaseTones$Wheel" "ends" "[I", Cond.methodLink RX4 38 arraycopyName, Cond.fieldLink RX4 22 "PhaseTones$Wheel" "lengths" "[I", Cond.fieldLink RX4 44 "PhaseTones$Wheel" "begin" "I", Cond.fieldLink RX4 47 "PhaseTones$Wheel" "gone" "I"]
def wsX5_save : List Cond := .code yX5_save cX5_save 2 (some .int) :: ((wsX5_save_r1 ++ wsX5_save_r2) ++ wsX50 ++ wsX20 ++ wsX30 ++ wsX40)
def wsX5_restore_r1 : List Cond := [Cond.fieldLink RX5 29 "PhaseTones" "slots" "LPhaseTones$Slots;", Cond.fieldLink RX5 215 "PhaseTones$Slots" "isSaved" "[Z", Cond.fieldLink RX5 22 "PhaseTones" "history" "LPhaseTones$History;", Cond.fieldLink RX5 10 "PhaseTones" "now" "LPhaseTones$Sound;", Cond.fieldLink RX5 211 "PhaseTones$Slots" "sounds" "[LPhaseTones$Sound;", Cond.fieldLink RX5 154 "PhaseTones$Sound" "made" "I", Cond.methodLink RX5 40 yX5_isOutside, Cond.static yX5_isOutside, Cond.initialized RX5, Cond.code yX5_isOutside cX5_isOutside 3 (some .boolean), Cond.methodLink RX5 44 yX0_keep, Cond.instanceMethod yX0_keep, Cond.selects RX0 yX0_keep yX0_keep, Cond.initialized RX0, Cond.code yX0_keep cX0_keep 2 none, Cond.fieldLink RX0 11 "PhaseTones$History" "states" "[LPhaseTones$Sound;", Cond.fieldLink RX0 18 "PhaseTones$History" "recorded" "I", Cond.fieldLink RX0 32 "PhaseTones$History" "kept" "I", Cond.methodLink RX0 35 Lib.Math.min.name, Cond.static Lib.Math.min.name, Cond.initialized "java/lang/Math", Cond.code Lib.Math.min.name Lib.Math.min.code 2 (some .int), Cond.methodLink RX0 22 yJ9_floorMod_7cf53, Cond.static yJ9_floorMod_7cf53]
def wsX5_restore_r2 : List Cond := [Cond.initialized RJ9, Cond.code yJ9_floorMod_7cf53 cJ9_floorMod_7cf53 3 (some .int), Cond.methodLink RX0 28 yX3_takeOver, Cond.instanceMethod yX3_takeOver, Cond.selects RX3 yX3_takeOver yX3_takeOver, Cond.initialized RX3, Cond.code yX3_takeOver cX3_takeOver 3 none, Cond.fieldLink RX3 9 "PhaseTones$Sound" "limit" "I", Cond.fieldLink RX3 15 "PhaseTones$Sound" "values" "[I", Cond.methodLink RX3 33 arraycopyName, Cond.native arraycopyName, Cond.static arraycopyName, Cond.initialized "java/lang/System", Cond.fieldLink RX3 21 "PhaseTones$Sound" "wheels" "[LPhaseTones$Wheel;", Cond.fieldLink RX3 43 "PhaseTones$Sound" "made" "I", Cond.fieldLink RX3 46 "PhaseTones$Sound" "clipped" "I", Cond.fieldLink RX3 49 "PhaseTones$Sound" "sum" "I", Cond.fieldLink RX3 52 "PhaseTones$Sound" "rises" "I", Cond.fieldLink RX3 25 "PhaseTones$Sound" "latest" "[I", Cond.methodLink RX3 39 yX4_takeOver, Cond.instanceMethod yX4_takeOver, Cond.selects RX4 yX4_takeOver yX4_takeOver, Cond.initialized RX4, Cond.code yX4_takeOver cX4_takeOver 2 none]
def wsX5_restore_r3 : List Cond := [Cond.fieldLink RX4 25 "PhaseTones$Wheel" "phase" "I", Cond.fieldLink RX4 9 "PhaseTones$Wheel" "step" "I", Cond.fieldLink RX4 28 "PhaseTones$Wheel" "table" "I", Cond.fieldLink RX4 15 "PhaseTones$Wheel" "volume" "I", Cond.fieldLink RX4 31 "PhaseTones$Wheel" "isOn" "Z", Cond.fieldLink RX4 35 "PhaseTones$Wheel" "sweeps" "I", Cond.fieldLink RX4 18 "PhaseTones$Wheel" "ends" "[I", Cond.methodLink RX4 38 arraycopyName, Cond.fieldLink RX4 22 "PhaseTones$Wheel" "lengths" "[I", Cond.fieldLink RX4 44 "PhaseTones$Wheel" "begin" "I", Cond.fieldLink RX4 47 "PhaseTones$Wheel" "gone" "I", Cond.methodLink RX5 184 yX3_takeOver]
def wsX5_restore : List Cond := .code yX5_restore cX5_restore 2 (some .int) :: ((wsX5_restore_r1 ++ (wsX5_restore_r2 ++ wsX5_restore_r3)) ++ wsX50 ++ wsX20 ++ wsX30 ++ wsX00 ++ wsX40)
def wsJ9_abs_0f7a4 : List Cond := .code yJ9_abs_0f7a4 cJ9_abs_0f7a4 1 (some .int) :: ([])
def wsJ9_max_7cf53 : List Cond := .code yJ9_max_7cf53 cJ9_max_7cf53 2 (some .int) :: ([])
def wsJ9_min_7cf53 : List Cond := .code yJ9_min_7cf53 cJ9_min_7cf53 2 (some .int) :: ([])
set_option maxRecDepth 20000 in
theorem ggX0_init_X3_init : GoodIn wsX0_init wsX3_init := goodIn_r _ [10, 11, 2, 3, 12, 13, 14, 15, 16, 17, 18, 19, 20, 21, 22, 23, 24, 25, 26, 27, 31, 32, 33, 34, 35, 36, 37, 38, 39, 40, 41, 42, 43, 44, 45, 46, 47, 48] (by decide +kernel) (by decide +kernel)
set_option maxRecDepth 20000 in
theorem gX0_init_X3_init : GoodIn wsX0_init (wsX3_init) := ggX0_init_X3_init
theorem dX0_init_0 : decode cX0_init 0 = .ok (.aload_n 0, 1) := by decide +kernel
theorem dX0_init_1 : decode cX0_init 1 = .ok (.invokespecial 3, 3) := by decide +kernel
theorem dX0_init_4 : decode cX0_init 4 = .ok (.aload_n 0, 1) := by decide +kernel
theorem dX0_init_5 : decode cX0_init 5 = .ok (.bipush 6, 2) := by decide +kernel
theorem dX0_init_7 : decode cX0_init 7 = .ok (.anewarray 9, 3) := by decide +kernel
theorem dX0_init_10 : decode cX0_init 10 = .ok (.putfield 11, 3) := by decide +kernel
theorem dX0_init_13 : decode cX0_init 13 = .ok (.iconst 0, 1) := by decide +kernel
theorem dX0_init_14 : decode cX0_init 14 = .ok (.istore_n 1, 1) := by decide +kernel
theorem dX0_init_15 : decode cX0_init 15 = .ok (.iload_n 1, 1) := by decide +kernel
theorem dX0_init_16 : decode cX0_init 16 = .ok (.bipush 6, 2) := by decide +kernel
theorem dX0_init_18 : decode cX0_init 18 = .ok (.if_icmp .ge 22, 3) := by decide +kernel
theorem dX0_init_21 : decode cX0_init 21 = .ok (.aload_n 0, 1) := by decide +kernel
theorem dX0_init_22 : decode cX0_init 22 = .ok (.getfield 11, 3) := by decide +kernel
theorem dX0_init_25 : decode cX0_init 25 = .ok (.iload_n 1, 1) := by decide +kernel
theorem dX0_init_26 : decode cX0_init 26 = .ok (.new 9, 3) := by decide +kernel
theorem dX0_init_29 : decode cX0_init 29 = .ok (.dup, 1) := by decide +kernel
theorem dX0_init_30 : decode cX0_init 30 = .ok (.invokespecial 17, 3) := by decide +kernel
theorem dX0_init_33 : decode cX0_init 33 = .ok (.aastore, 1) := by decide +kernel
theorem dX0_init_34 : decode cX0_init 34 = .ok (.iinc 1 1, 3) := by decide +kernel
theorem dX0_init_37 : decode cX0_init 37 = .ok (.goto (-22), 3) := by decide +kernel
theorem dX0_init_40 : decode cX0_init 40 = .ok (.return_, 1) := by decide +kernel
set_option maxRecDepth 20000 in
theorem ggX0_keep_J9_floorMod_7cf53 : GoodIn wsX0_keep wsJ9_floorMod_7cf53 := goodIn_r _ [11] (by decide +kernel) (by decide +kernel)
set_option maxRecDepth 20000 in
theorem gX0_keep_J9_floorMod_7cf53 : GoodIn wsX0_keep (va_wsS RX0 22 yJ9_floorMod_7cf53 wsJ9_floorMod_7cf53) := goodIn_app (goodIn_of _ (by decide +kernel)) ggX0_keep_J9_floorMod_7cf53
set_option maxRecDepth 20000 in
theorem ggX0_keep_X3_takeOver : GoodIn wsX0_keep wsX3_takeOver := goodIn_r _ [16, 17, 18, 19, 20, 21, 22, 23, 24, 25, 26, 27, 28, 29, 30, 31, 32, 33, 34, 35, 36, 37, 38, 39, 40, 41, 42, 43, 44, 48, 49, 50, 51, 52, 53, 54, 55, 56, 57, 58, 59, 60, 61, 62, 63, 64, 65] (by decide +kernel) (by decide +kernel)
set_option maxRecDepth 20000 in
theorem gX0_keep_X3_takeOver : GoodIn wsX0_keep (wsV RX0 28 RX3 yX3_takeOver wsX3_takeOver) := goodIn_app (goodIn_of _ (by decide +kernel)) ggX0_keep_X3_takeOver
theorem dX0_keep_0 : decode cX0_keep 0 = .ok (.aload_n 0, 1) := by decide +kernel
theorem dX0_keep_1 : decode cX0_keep 1 = .ok (.getfield 11, 3) := by decide +kernel
theorem dX0_keep_4 : decode cX0_keep 4 = .ok (.aload_n 0, 1) := by decide +kernel
theorem dX0_keep_5 : decode cX0_keep 5 = .ok (.getfield 18, 3) := by decide +kernel
theorem dX0_keep_8 : decode cX0_keep 8 = .ok (.bipush 6, 2) := by decide +kernel
theorem dX0_keep_10 : decode cX0_keep 10 = .ok (.invokestatic 22, 3) := by decide +kernel
theorem dX0_keep_13 : decode cX0_keep 13 = .ok (.aaload, 1) := by decide +kernel
theorem dX0_keep_14 : decode cX0_keep 14 = .ok (.aload_n 1, 1) := by decide +kernel
theorem dX0_keep_15 : decode cX0_keep 15 = .ok (.invokevirtual 28, 3) := by decide +kernel
theorem dX0_keep_18 : decode cX0_keep 18 = .ok (.aload_n 0, 1) := by decide +kernel
theorem dX0_keep_19 : decode cX0_keep 19 = .ok (.dup, 1) := by decide +kernel
theorem dX0_keep_20 : decode cX0_keep 20 = .ok (.getfield 18, 3) := by decide +kernel
theorem dX0_keep_23 : decode cX0_keep 23 = .ok (.iconst 1, 1) := by decide +kernel
theorem dX0_keep_24 : decode cX0_keep 24 = .ok (.iadd, 1) := by decide +kernel
theorem dX0_keep_25 : decode cX0_keep 25 = .ok (.putfield 18, 3) := by decide +kernel
theorem dX0_keep_28 : decode cX0_keep 28 = .ok (.aload_n 0, 1) := by decide +kernel
theorem dX0_keep_29 : decode cX0_keep 29 = .ok (.aload_n 0, 1) := by decide +kernel
theorem dX0_keep_30 : decode cX0_keep 30 = .ok (.getfield 32, 3) := by decide +kernel
theorem dX0_keep_33 : decode cX0_keep 33 = .ok (.iconst 1, 1) := by decide +kernel
theorem dX0_keep_34 : decode cX0_keep 34 = .ok (.iadd, 1) := by decide +kernel
theorem dX0_keep_35 : decode cX0_keep 35 = .ok (.bipush 6, 2) := by decide +kernel
theorem dX0_keep_37 : decode cX0_keep 37 = .ok (.invokestatic 35, 3) := by decide +kernel
theorem dX0_keep_40 : decode cX0_keep 40 = .ok (.putfield 32, 3) := by decide +kernel
theorem dX0_keep_43 : decode cX0_keep 43 = .ok (.return_, 1) := by decide +kernel
set_option maxRecDepth 20000 in
theorem ggX0_bringBack_J9_floorMod_7cf53 : GoodIn wsX0_bringBack wsJ9_floorMod_7cf53 := goodIn_r _ [11] (by decide +kernel) (by decide +kernel)
set_option maxRecDepth 20000 in
theorem gX0_bringBack_J9_floorMod_7cf53 : GoodIn wsX0_bringBack (va_wsS RX0 22 yJ9_floorMod_7cf53 wsJ9_floorMod_7cf53) := goodIn_app (goodIn_of _ (by decide +kernel)) ggX0_bringBack_J9_floorMod_7cf53
set_option maxRecDepth 20000 in
theorem ggX0_bringBack_X3_takeOver : GoodIn wsX0_bringBack wsX3_takeOver := goodIn_r _ [16, 17, 18, 19, 20, 21, 22, 23, 24, 25, 26, 27, 28, 29, 30, 31, 32, 33, 34, 35, 36, 37, 38, 39, 40, 41, 42, 43, 44, 48, 49, 50, 51, 52, 53, 54, 55, 56, 57, 58, 59, 60, 61, 62, 63, 64, 65] (by decide +kernel) (by decide +kernel)
set_option maxRecDepth 20000 in
theorem gX0_bringBack_X3_takeOver : GoodIn wsX0_bringBack (wsV RX0 28 RX3 yX3_takeOver wsX3_takeOver) := goodIn_app (goodIn_of _ (by decide +kernel)) ggX0_bringBack_X3_takeOver
theorem dX0_bringBack_0 : decode cX0_bringBack 0 = .ok (.aload_n 0, 1) := by decide +kernel
theorem dX0_bringBack_1 : decode cX0_bringBack 1 = .ok (.dup, 1) := by decide +kernel
theorem dX0_bringBack_2 : decode cX0_bringBack 2 = .ok (.getfield 18, 3) := by decide +kernel
theorem dX0_bringBack_5 : decode cX0_bringBack 5 = .ok (.iconst 1, 1) := by decide +kernel
theorem dX0_bringBack_6 : decode cX0_bringBack 6 = .ok (.isub, 1) := by decide +kernel
theorem dX0_bringBack_7 : decode cX0_bringBack 7 = .ok (.putfield 18, 3) := by decide +kernel
theorem dX0_bringBack_10 : decode cX0_bringBack 10 = .ok (.aload_n 0, 1) := by decide +kernel
theorem dX0_bringBack_11 : decode cX0_bringBack 11 = .ok (.aload_n 0, 1) := by decide +kernel
theorem dX0_bringBack_12 : decode cX0_bringBack 12 = .ok (.getfield 32, 3) := by decide +kernel
theorem dX0_bringBack_15 : decode cX0_bringBack 15 = .ok (.iconst 1, 1) := by decide +kernel
theorem dX0_bringBack_16 : decode cX0_bringBack 16 = .ok (.isub, 1) := by decide +kernel
theorem dX0_bringBack_17 : decode cX0_bringBack 17 = .ok (.iconst 0, 1) := by decide +kernel
theorem dX0_bringBack_18 : decode cX0_bringBack 18 = .ok (.invokestatic 38, 3) := by decide +kernel
theorem dX0_bringBack_21 : decode cX0_bringBack 21 = .ok (.putfield 32, 3) := by decide +kernel
theorem dX0_bringBack_24 : decode cX0_bringBack 24 = .ok (.aload_n 1, 1) := by decide +kernel
theorem dX0_bringBack_25 : decode cX0_bringBack 25 = .ok (.aload_n 0, 1) := by decide +kernel
theorem dX0_bringBack_26 : decode cX0_bringBack 26 = .ok (.getfield 11, 3) := by decide +kernel
theorem dX0_bringBack_29 : decode cX0_bringBack 29 = .ok (.aload_n 0, 1) := by decide +kernel
theorem dX0_bringBack_30 : decode cX0_bringBack 30 = .ok (.getfield 18, 3) := by decide +kernel
theorem dX0_bringBack_33 : decode cX0_bringBack 33 = .ok (.bipush 6, 2) := by decide +kernel
theorem dX0_bringBack_35 : decode cX0_bringBack 35 = .ok (.invokestatic 22, 3) := by decide +kernel
theorem dX0_bringBack_38 : decode cX0_bringBack 38 = .ok (.aaload, 1) := by decide +kernel
theorem dX0_bringBack_39 : decode cX0_bringBack 39 = .ok (.invokevirtual 28, 3) := by decide +kernel
theorem dX0_bringBack_42 : decode cX0_bringBack 42 = .ok (.return_, 1) := by decide +kernel
theorem dX1_init_0 : decode cX1_init 0 = .ok (.aload_n 0, 1) := by decide +kernel
theorem dX1_init_1 : decode cX1_init 1 = .ok (.invokespecial 3, 3) := by decide +kernel
theorem dX1_init_4 : decode cX1_init 4 = .ok (.aload_n 0, 1) := by decide +kernel
theorem dX1_init_5 : decode cX1_init 5 = .ok (.bipush 60, 2) := by decide +kernel
theorem dX1_init_7 : decode cX1_init 7 = .ok (.newarray .char, 2) := by decide +kernel
theorem dX1_init_9 : decode cX1_init 9 = .ok (.putfield 9, 3) := by decide +kernel
theorem dX1_init_12 : decode cX1_init 12 = .ok (.return_, 1) := by decide +kernel
set_option maxRecDepth 20000 in
theorem ggX2_init_X3_init : GoodIn wsX2_init wsX3_init := goodIn_r _ [12, 13, 2, 3, 14, 15, 16, 17, 18, 19, 20, 21, 22, 23, 24, 25, 26, 27, 28, 29, 32, 33, 34, 35, 36, 37, 38, 39, 40, 41, 42, 43, 44, 45, 46, 47, 48, 49] (by decide +kernel) (by decide +kernel)
set_option maxRecDepth 20000 in
theorem gX2_init_X3_init : GoodIn wsX2_init (wsX3_init) := ggX2_init_X3_init
theorem dX2_init_0 : decode cX2_init 0 = .ok (.aload_n 0, 1) := by decide +kernel
theorem dX2_init_1 : decode cX2_init 1 = .ok (.invokespecial 3, 3) := by decide +kernel
theorem dX2_init_4 : decode cX2_init 4 = .ok (.aload_n 0, 1) := by decide +kernel
theorem dX2_init_5 : decode cX2_init 5 = .ok (.iconst 2, 1) := by decide +kernel
theorem dX2_init_6 : decode cX2_init 6 = .ok (.anewarray 9, 3) := by decide +kernel
theorem dX2_init_9 : decode cX2_init 9 = .ok (.putfield 11, 3) := by decide +kernel
theorem dX2_init_12 : decode cX2_init 12 = .ok (.aload_n 0, 1) := by decide +kernel
theorem dX2_init_13 : decode cX2_init 13 = .ok (.iconst 2, 1) := by decide +kernel
theorem dX2_init_14 : decode cX2_init 14 = .ok (.newarray .boolean, 2) := by decide +kernel
theorem dX2_init_16 : decode cX2_init 16 = .ok (.putfield 17, 3) := by decide +kernel
theorem dX2_init_19 : decode cX2_init 19 = .ok (.iconst 0, 1) := by decide +kernel
theorem dX2_init_20 : decode cX2_init 20 = .ok (.istore_n 1, 1) := by decide +kernel
theorem dX2_init_21 : decode cX2_init 21 = .ok (.iload_n 1, 1) := by decide +kernel
theorem dX2_init_22 : decode cX2_init 22 = .ok (.iconst 2, 1) := by decide +kernel
theorem dX2_init_23 : decode cX2_init 23 = .ok (.if_icmp .ge 22, 3) := by decide +kernel
theorem dX2_init_26 : decode cX2_init 26 = .ok (.aload_n 0, 1) := by decide +kernel
theorem dX2_init_27 : decode cX2_init 27 = .ok (.getfield 11, 3) := by decide +kernel
theorem dX2_init_30 : decode cX2_init 30 = .ok (.iload_n 1, 1) := by decide +kernel
theorem dX2_init_31 : decode cX2_init 31 = .ok (.new 9, 3) := by decide +kernel
theorem dX2_init_34 : decode cX2_init 34 = .ok (.dup, 1) := by decide +kernel
theorem dX2_init_35 : decode cX2_init 35 = .ok (.invokespecial 21, 3) := by decide +kernel
theorem dX2_init_38 : decode cX2_init 38 = .ok (.aastore, 1) := by decide +kernel
theorem dX2_init_39 : decode cX2_init 39 = .ok (.iinc 1 1, 3) := by decide +kernel
theorem dX2_init_42 : decode cX2_init 42 = .ok (.goto (-21), 3) := by decide +kernel
theorem dX2_init_45 : decode cX2_init 45 = .ok (.return_, 1) := by decide +kernel
set_option maxRecDepth 20000 in
theorem ggX3_init_X4_init : GoodIn wsX3_init wsX4_init := goodIn_r _ [14, 15, 2, 3, 16, 17, 5, 18, 19, 28, 29, 30, 31, 32, 33, 34, 35, 36, 37] (by decide +kernel) (by decide +kernel)
set_option maxRecDepth 20000 in
theorem gX3_init_X4_init_n28 : GoodIn wsX3_init (wsX4_init) := ggX3_init_X4_init
theorem dX3_init_0 : decode cX3_init 0 = .ok (.aload_n 0, 1) := by decide +kernel
theorem dX3_init_1 : decode cX3_init 1 = .ok (.invokespecial 3, 3) := by decide +kernel
theorem dX3_init_4 : decode cX3_init 4 = .ok (.aload_n 0, 1) := by decide +kernel
theorem dX3_init_5 : decode cX3_init 5 = .ok (.sipush 400, 3) := by decide +kernel
theorem dX3_init_8 : decode cX3_init 8 = .ok (.putfield 9, 3) := by decide +kernel
theorem dX3_init_11 : decode cX3_init 11 = .ok (.aload_n 0, 1) := by decide +kernel
theorem dX3_init_12 : decode cX3_init 12 = .ok (.bipush 64, 2) := by decide +kernel
theorem dX3_init_14 : decode cX3_init 14 = .ok (.newarray .int, 2) := by decide +kernel
theorem dX3_init_16 : decode cX3_init 16 = .ok (.putfield 15, 3) := by decide +kernel
theorem dX3_init_19 : decode cX3_init 19 = .ok (.aload_n 0, 1) := by decide +kernel
theorem dX3_init_20 : decode cX3_init 20 = .ok (.iconst 4, 1) := by decide +kernel
theorem dX3_init_21 : decode cX3_init 21 = .ok (.anewarray 19, 3) := by decide +kernel
theorem dX3_init_24 : decode cX3_init 24 = .ok (.putfield 21, 3) := by decide +kernel
theorem dX3_init_27 : decode cX3_init 27 = .ok (.aload_n 0, 1) := by decide +kernel
theorem dX3_init_28 : decode cX3_init 28 = .ok (.bipush 32, 2) := by decide +kernel
theorem dX3_init_30 : decode cX3_init 30 = .ok (.newarray .int, 2) := by decide +kernel
theorem dX3_init_32 : decode cX3_init 32 = .ok (.putfield 25, 3) := by decide +kernel
theorem dX3_init_35 : decode cX3_init 35 = .ok (.iconst 0, 1) := by decide +kernel
theorem dX3_init_36 : decode cX3_init 36 = .ok (.istore_n 1, 1) := by decide +kernel
theorem dX3_init_37 : decode cX3_init 37 = .ok (.iload_n 1, 1) := by decide +kernel
theorem dX3_init_38 : decode cX3_init 38 = .ok (.bipush 16, 2) := by decide +kernel
theorem dX3_init_40 : decode cX3_init 40 = .ok (.if_icmp .ge 72, 3) := by decide +kernel
theorem dX3_init_43 : decode cX3_init 43 = .ok (.iload_n 1, 1) := by decide +kernel
theorem dX3_init_44 : decode cX3_init 44 = .ok (.bipush 8, 2) := by decide +kernel
theorem dX3_init_46 : decode cX3_init 46 = .ok (.if_icmp .ge 7, 3) := by decide +kernel
theorem dX3_init_49 : decode cX3_init 49 = .ok (.iconst 1, 1) := by decide +kernel
theorem dX3_init_50 : decode cX3_init 50 = .ok (.goto 4, 3) := by decide +kernel
theorem dX3_init_53 : decode cX3_init 53 = .ok (.iconst 0, 1) := by decide +kernel
theorem dX3_init_54 : decode cX3_init 54 = .ok (.istore_n 2, 1) := by decide +kernel
theorem dX3_init_55 : decode cX3_init 55 = .ok (.aload_n 0, 1) := by decide +kernel
theorem dX3_init_56 : decode cX3_init 56 = .ok (.getfield 15, 3) := by decide +kernel
theorem dX3_init_59 : decode cX3_init 59 = .ok (.iload_n 1, 1) := by decide +kernel
theorem dX3_init_60 : decode cX3_init 60 = .ok (.iload_n 1, 1) := by decide +kernel
theorem dX3_init_61 : decode cX3_init 61 = .ok (.iastore, 1) := by decide +kernel
theorem dX3_init_62 : decode cX3_init 62 = .ok (.aload_n 0, 1) := by decide +kernel
theorem dX3_init_63 : decode cX3_init 63 = .ok (.getfield 15, 3) := by decide +kernel
theorem dX3_init_66 : decode cX3_init 66 = .ok (.bipush 16, 2) := by decide +kernel
theorem dX3_init_68 : decode cX3_init 68 = .ok (.iload_n 1, 1) := by decide +kernel
theorem dX3_init_69 : decode cX3_init 69 = .ok (.iadd, 1) := by decide +kernel
theorem dX3_init_70 : decode cX3_init 70 = .ok (.iload_n 2, 1) := by decide +kernel
theorem dX3_init_71 : decode cX3_init 71 = .ok (.ifCond .eq 9, 3) := by decide +kernel
theorem dX3_init_74 : decode cX3_init 74 = .ok (.iconst 2, 1) := by decide +kernel
theorem dX3_init_75 : decode cX3_init 75 = .ok (.iload_n 1, 1) := by decide +kernel
theorem dX3_init_76 : decode cX3_init 76 = .ok (.imul, 1) := by decide +kernel
theorem dX3_init_77 : decode cX3_init 77 = .ok (.goto 9, 3) := by decide +kernel
theorem dX3_init_80 : decode cX3_init 80 = .ok (.bipush 30, 2) := by decide +kernel
theorem dX3_init_82 : decode cX3_init 82 = .ok (.iconst 2, 1) := by decide +kernel
theorem dX3_init_83 : decode cX3_init 83 = .ok (.iload_n 1, 1) := by decide +kernel
theorem dX3_init_84 : decode cX3_init 84 = .ok (.imul, 1) := by decide +kernel
theorem dX3_init_85 : decode cX3_init 85 = .ok (.isub, 1) := by decide +kernel
theorem dX3_init_86 : decode cX3_init 86 = .ok (.iastore, 1) := by decide +kernel
theorem dX3_init_87 : decode cX3_init 87 = .ok (.aload_n 0, 1) := by decide +kernel
theorem dX3_init_88 : decode cX3_init 88 = .ok (.getfield 15, 3) := by decide +kernel
theorem dX3_init_91 : decode cX3_init 91 = .ok (.bipush 32, 2) := by decide +kernel
theorem dX3_init_93 : decode cX3_init 93 = .ok (.iload_n 1, 1) := by decide +kernel
theorem dX3_init_94 : decode cX3_init 94 = .ok (.iadd, 1) := by decide +kernel
theorem dX3_init_95 : decode cX3_init 95 = .ok (.iload_n 2, 1) := by decide +kernel
theorem dX3_init_96 : decode cX3_init 96 = .ok (.ifCond .eq 8, 3) := by decide +kernel
theorem dX3_init_99 : decode cX3_init 99 = .ok (.bipush 15, 2) := by decide +kernel
theorem dX3_init_101 : decode cX3_init 101 = .ok (.goto 4, 3) := by decide +kernel
theorem dX3_init_104 : decode cX3_init 104 = .ok (.iconst 0, 1) := by decide +kernel
theorem dX3_init_105 : decode cX3_init 105 = .ok (.iastore, 1) := by decide +kernel
theorem dX3_init_106 : decode cX3_init 106 = .ok (.iinc 1 1, 3) := by decide +kernel
theorem dX3_init_109 : decode cX3_init 109 = .ok (.goto (-72), 3) := by decide +kernel
theorem dX3_init_112 : decode cX3_init 112 = .ok (.iconst 0, 1) := by decide +kernel
theorem dX3_init_113 : decode cX3_init 113 = .ok (.istore_n 1, 1) := by decide +kernel
theorem dX3_init_114 : decode cX3_init 114 = .ok (.iload_n 1, 1) := by decide +kernel
theorem dX3_init_115 : decode cX3_init 115 = .ok (.iconst 4, 1) := by decide +kernel
theorem dX3_init_116 : decode cX3_init 116 = .ok (.if_icmp .ge 22, 3) := by decide +kernel
theorem dX3_init_119 : decode cX3_init 119 = .ok (.aload_n 0, 1) := by decide +kernel
theorem dX3_init_120 : decode cX3_init 120 = .ok (.getfield 21, 3) := by decide +kernel
theorem dX3_init_123 : decode cX3_init 123 = .ok (.iload_n 1, 1) := by decide +kernel
theorem dX3_init_124 : decode cX3_init 124 = .ok (.new 19, 3) := by decide +kernel
theorem dX3_init_127 : decode cX3_init 127 = .ok (.dup, 1) := by decide +kernel
theorem dX3_init_128 : decode cX3_init 128 = .ok (.invokespecial 28, 3) := by decide +kernel
theorem dX3_init_131 : decode cX3_init 131 = .ok (.aastore, 1) := by decide +kernel
theorem dX3_init_132 : decode cX3_init 132 = .ok (.iinc 1 1, 3) := by decide +kernel
theorem dX3_init_135 : decode cX3_init 135 = .ok (.goto (-21), 3) := by decide +kernel
theorem dX3_init_138 : decode cX3_init 138 = .ok (.aload_n 0, 1) := by decide +kernel
theorem dX3_init_139 : decode cX3_init 139 = .ok (.getfield 21, 3) := by decide +kernel
theorem dX3_init_142 : decode cX3_init 142 = .ok (.iconst 0, 1) := by decide +kernel
theorem dX3_init_143 : decode cX3_init 143 = .ok (.aaload, 1) := by decide +kernel
theorem dX3_init_144 : decode cX3_init 144 = .ok (.iconst 1, 1) := by decide +kernel
theorem dX3_init_145 : decode cX3_init 145 = .ok (.putfield 29, 3) := by decide +kernel
theorem dX3_init_148 : decode cX3_init 148 = .ok (.return_, 1) := by decide +kernel
set_option maxRecDepth 20000 in
theorem ggX3_takeOver_X4_takeOver : GoodIn wsX3_takeOver wsX4_takeOver := goodIn_r _ [17, 18, 19, 20, 21, 22, 23, 24, 25, 4, 5, 6, 26, 27, 28, 37, 38, 39, 40, 41, 42, 43, 44, 45, 46] (by decide +kernel) (by decide +kernel)
set_option maxRecDepth 20000 in
theorem gX3_takeOver_X4_takeOver : GoodIn wsX3_takeOver (wsV RX3 39 RX4 yX4_takeOver wsX4_takeOver) := goodIn_app (goodIn_of _ (by decide +kernel)) ggX3_takeOver_X4_takeOver
theorem dX3_takeOver_0 : decode cX3_takeOver 0 = .ok (.aload_n 0, 1) := by decide +kernel
theorem dX3_takeOver_1 : decode cX3_takeOver 1 = .ok (.aload_n 1, 1) := by decide +kernel
theorem dX3_takeOver_2 : decode cX3_takeOver 2 = .ok (.getfield 9, 3) := by decide +kernel
theorem dX3_takeOver_5 : decode cX3_takeOver 5 = .ok (.putfield 9, 3) := by decide +kernel
theorem dX3_takeOver_8 : decode cX3_takeOver 8 = .ok (.aload_n 1, 1) := by decide +kernel
theorem dX3_takeOver_9 : decode cX3_takeOver 9 = .ok (.getfield 15, 3) := by decide +kernel
theorem dX3_takeOver_12 : decode cX3_takeOver 12 = .ok (.iconst 0, 1) := by decide +kernel
theorem dX3_takeOver_13 : decode cX3_takeOver 13 = .ok (.aload_n 0, 1) := by decide +kernel
theorem dX3_takeOver_14 : decode cX3_takeOver 14 = .ok (.getfield 15, 3) := by decide +kernel
theorem dX3_takeOver_17 : decode cX3_takeOver 17 = .ok (.iconst 0, 1) := by decide +kernel
theorem dX3_takeOver_18 : decode cX3_takeOver 18 = .ok (.bipush 64, 2) := by decide +kernel
theorem dX3_takeOver_20 : decode cX3_takeOver 20 = .ok (.invokestatic 33, 3) := by decide +kernel
theorem dX3_takeOver_23 : decode cX3_takeOver 23 = .ok (.iconst 0, 1) := by decide +kernel
theorem dX3_takeOver_24 : decode cX3_takeOver 24 = .ok (.istore_n 2, 1) := by decide +kernel
theorem dX3_takeOver_25 : decode cX3_takeOver 25 = .ok (.iload_n 2, 1) := by decide +kernel
theorem dX3_takeOver_26 : decode cX3_takeOver 26 = .ok (.iconst 4, 1) := by decide +kernel
theorem dX3_takeOver_27 : decode cX3_takeOver 27 = .ok (.if_icmp .ge 24, 3) := by decide +kernel
theorem dX3_takeOver_30 : decode cX3_takeOver 30 = .ok (.aload_n 0, 1) := by decide +kernel
theorem dX3_takeOver_31 : decode cX3_takeOver 31 = .ok (.getfield 21, 3) := by decide +kernel
theorem dX3_takeOver_34 : decode cX3_takeOver 34 = .ok (.iload_n 2, 1) := by decide +kernel
theorem dX3_takeOver_35 : decode cX3_takeOver 35 = .ok (.aaload, 1) := by decide +kernel
theorem dX3_takeOver_36 : decode cX3_takeOver 36 = .ok (.aload_n 1, 1) := by decide +kernel
theorem dX3_takeOver_37 : decode cX3_takeOver 37 = .ok (.getfield 21, 3) := by decide +kernel
theorem dX3_takeOver_40 : decode cX3_takeOver 40 = .ok (.iload_n 2, 1) := by decide +kernel
theorem dX3_takeOver_41 : decode cX3_takeOver 41 = .ok (.aaload, 1) := by decide +kernel
theorem dX3_takeOver_42 : decode cX3_takeOver 42 = .ok (.invokevirtual 39, 3) := by decide +kernel
theorem dX3_takeOver_45 : decode cX3_takeOver 45 = .ok (.iinc 2 1, 3) := by decide +kernel
theorem dX3_takeOver_48 : decode cX3_takeOver 48 = .ok (.goto (-23), 3) := by decide +kernel
theorem dX3_takeOver_51 : decode cX3_takeOver 51 = .ok (.aload_n 0, 1) := by decide +kernel
theorem dX3_takeOver_52 : decode cX3_takeOver 52 = .ok (.aload_n 1, 1) := by decide +kernel
theorem dX3_takeOver_53 : decode cX3_takeOver 53 = .ok (.getfield 43, 3) := by decide +kernel
theorem dX3_takeOver_56 : decode cX3_takeOver 56 = .ok (.putfield 43, 3) := by decide +kernel
theorem dX3_takeOver_59 : decode cX3_takeOver 59 = .ok (.aload_n 0, 1) := by decide +kernel
theorem dX3_takeOver_60 : decode cX3_takeOver 60 = .ok (.aload_n 1, 1) := by decide +kernel
theorem dX3_takeOver_61 : decode cX3_takeOver 61 = .ok (.getfield 46, 3) := by decide +kernel
theorem dX3_takeOver_64 : decode cX3_takeOver 64 = .ok (.putfield 46, 3) := by decide +kernel
theorem dX3_takeOver_67 : decode cX3_takeOver 67 = .ok (.aload_n 0, 1) := by decide +kernel
theorem dX3_takeOver_68 : decode cX3_takeOver 68 = .ok (.aload_n 1, 1) := by decide +kernel
theorem dX3_takeOver_69 : decode cX3_takeOver 69 = .ok (.getfield 49, 3) := by decide +kernel
theorem dX3_takeOver_72 : decode cX3_takeOver 72 = .ok (.putfield 49, 3) := by decide +kernel
theorem dX3_takeOver_75 : decode cX3_takeOver 75 = .ok (.aload_n 0, 1) := by decide +kernel
theorem dX3_takeOver_76 : decode cX3_takeOver 76 = .ok (.aload_n 1, 1) := by decide +kernel
theorem dX3_takeOver_77 : decode cX3_takeOver 77 = .ok (.getfield 52, 3) := by decide +kernel
theorem dX3_takeOver_80 : decode cX3_takeOver 80 = .ok (.putfield 52, 3) := by decide +kernel
theorem dX3_takeOver_83 : decode cX3_takeOver 83 = .ok (.aload_n 1, 1) := by decide +kernel
theorem dX3_takeOver_84 : decode cX3_takeOver 84 = .ok (.getfield 25, 3) := by decide +kernel
theorem dX3_takeOver_87 : decode cX3_takeOver 87 = .ok (.iconst 0, 1) := by decide +kernel
theorem dX3_takeOver_88 : decode cX3_takeOver 88 = .ok (.aload_n 0, 1) := by decide +kernel
theorem dX3_takeOver_89 : decode cX3_takeOver 89 = .ok (.getfield 25, 3) := by decide +kernel
theorem dX3_takeOver_92 : decode cX3_takeOver 92 = .ok (.iconst 0, 1) := by decide +kernel
theorem dX3_takeOver_93 : decode cX3_takeOver 93 = .ok (.bipush 32, 2) := by decide +kernel
theorem dX3_takeOver_95 : decode cX3_takeOver 95 = .ok (.invokestatic 33, 3) := by decide +kernel
theorem dX3_takeOver_98 : decode cX3_takeOver 98 = .ok (.return_, 1) := by decide +kernel
theorem dX3_valueGivenBy_0 : decode cX3_valueGivenBy 0 = .ok (.aload_n 1, 1) := by decide +kernel
theorem dX3_valueGivenBy_1 : decode cX3_valueGivenBy 1 = .ok (.getfield 55, 3) := by decide +kernel
theorem dX3_valueGivenBy_4 : decode cX3_valueGivenBy 4 = .ok (.bipush 16, 2) := by decide +kernel
theorem dX3_valueGivenBy_6 : decode cX3_valueGivenBy 6 = .ok (.imul, 1) := by decide +kernel
theorem dX3_valueGivenBy_7 : decode cX3_valueGivenBy 7 = .ok (.aload_n 1, 1) := by decide +kernel
theorem dX3_valueGivenBy_8 : decode cX3_valueGivenBy 8 = .ok (.getfield 58, 3) := by decide +kernel
theorem dX3_valueGivenBy_11 : decode cX3_valueGivenBy 11 = .ok (.sipush 4096, 3) := by decide +kernel
theorem dX3_valueGivenBy_14 : decode cX3_valueGivenBy 14 = .ok (.idiv, 1) := by decide +kernel
theorem dX3_valueGivenBy_15 : decode cX3_valueGivenBy 15 = .ok (.iadd, 1) := by decide +kernel
theorem dX3_valueGivenBy_16 : decode cX3_valueGivenBy 16 = .ok (.istore_n 2, 1) := by decide +kernel
theorem dX3_valueGivenBy_17 : decode cX3_valueGivenBy 17 = .ok (.iload_n 2, 1) := by decide +kernel
theorem dX3_valueGivenBy_18 : decode cX3_valueGivenBy 18 = .ok (.ifCond .lt 23, 3) := by decide +kernel
theorem dX3_valueGivenBy_21 : decode cX3_valueGivenBy 21 = .ok (.iload_n 2, 1) := by decide +kernel
theorem dX3_valueGivenBy_22 : decode cX3_valueGivenBy 22 = .ok (.bipush 64, 2) := by decide +kernel
theorem dX3_valueGivenBy_24 : decode cX3_valueGivenBy 24 = .ok (.if_icmp .ge 17, 3) := by decide +kernel
theorem dX3_valueGivenBy_27 : decode cX3_valueGivenBy 27 = .ok (.aload_n 0, 1) := by decide +kernel
theorem dX3_valueGivenBy_28 : decode cX3_valueGivenBy 28 = .ok (.getfield 15, 3) := by decide +kernel
theorem dX3_valueGivenBy_31 : decode cX3_valueGivenBy 31 = .ok (.iload_n 2, 1) := by decide +kernel
theorem dX3_valueGivenBy_32 : decode cX3_valueGivenBy 32 = .ok (.iaload, 1) := by decide +kernel
theorem dX3_valueGivenBy_33 : decode cX3_valueGivenBy 33 = .ok (.aload_n 1, 1) := by decide +kernel
theorem dX3_valueGivenBy_34 : decode cX3_valueGivenBy 34 = .ok (.getfield 61, 3) := by decide +kernel
theorem dX3_valueGivenBy_37 : decode cX3_valueGivenBy 37 = .ok (.imul, 1) := by decide +kernel
theorem dX3_valueGivenBy_38 : decode cX3_valueGivenBy 38 = .ok (.goto 4, 3) := by decide +kernel
theorem dX3_valueGivenBy_41 : decode cX3_valueGivenBy 41 = .ok (.iconst 0, 1) := by decide +kernel
theorem dX3_valueGivenBy_42 : decode cX3_valueGivenBy 42 = .ok (.ireturn, 1) := by decide +kernel
set_option maxRecDepth 20000 in
theorem ggX3_sumOfOn_X3_valueGivenBy : GoodIn wsX3_sumOfOn wsX3_valueGivenBy := goodIn_r _ [7, 8, 9, 10, 11, 20, 21, 22, 23, 24, 25, 26, 27, 28, 29, 12, 13, 14, 15, 16, 17, 18, 19] (by decide +kernel) (by decide +kernel)
set_option maxRecDepth 20000 in
theorem gX3_sumOfOn_X3_valueGivenBy : GoodIn wsX3_sumOfOn (wsV RX3 64 RX3 yX3_valueGivenBy wsX3_valueGivenBy) := goodIn_app (goodIn_of _ (by decide +kernel)) ggX3_sumOfOn_X3_valueGivenBy
theorem dX3_sumOfOn_0 : decode cX3_sumOfOn 0 = .ok (.iconst 0, 1) := by decide +kernel
theorem dX3_sumOfOn_1 : decode cX3_sumOfOn 1 = .ok (.istore_n 1, 1) := by decide +kernel
theorem dX3_sumOfOn_2 : decode cX3_sumOfOn 2 = .ok (.iconst 0, 1) := by decide +kernel
theorem dX3_sumOfOn_3 : decode cX3_sumOfOn 3 = .ok (.istore_n 2, 1) := by decide +kernel
theorem dX3_sumOfOn_4 : decode cX3_sumOfOn 4 = .ok (.iload_n 2, 1) := by decide +kernel
theorem dX3_sumOfOn_5 : decode cX3_sumOfOn 5 = .ok (.iconst 4, 1) := by decide +kernel
theorem dX3_sumOfOn_6 : decode cX3_sumOfOn 6 = .ok (.if_icmp .ge 34, 3) := by decide +kernel
theorem dX3_sumOfOn_9 : decode cX3_sumOfOn 9 = .ok (.aload_n 0, 1) := by decide +kernel
theorem dX3_sumOfOn_10 : decode cX3_sumOfOn 10 = .ok (.getfield 21, 3) := by decide +kernel
theorem dX3_sumOfOn_13 : decode cX3_sumOfOn 13 = .ok (.iload_n 2, 1) := by decide +kernel
theorem dX3_sumOfOn_14 : decode cX3_sumOfOn 14 = .ok (.aaload, 1) := by decide +kernel
theorem dX3_sumOfOn_15 : decode cX3_sumOfOn 15 = .ok (.getfield 29, 3) := by decide +kernel
theorem dX3_sumOfOn_18 : decode cX3_sumOfOn 18 = .ok (.ifCond .eq 16, 3) := by decide +kernel
theorem dX3_sumOfOn_21 : decode cX3_sumOfOn 21 = .ok (.iload_n 1, 1) := by decide +kernel
theorem dX3_sumOfOn_22 : decode cX3_sumOfOn 22 = .ok (.aload_n 0, 1) := by decide +kernel
theorem dX3_sumOfOn_23 : decode cX3_sumOfOn 23 = .ok (.aload_n 0, 1) := by decide +kernel
theorem dX3_sumOfOn_24 : decode cX3_sumOfOn 24 = .ok (.getfield 21, 3) := by decide +kernel
theorem dX3_sumOfOn_27 : decode cX3_sumOfOn 27 = .ok (.iload_n 2, 1) := by decide +kernel
theorem dX3_sumOfOn_28 : decode cX3_sumOfOn 28 = .ok (.aaload, 1) := by decide +kernel
theorem dX3_sumOfOn_29 : decode cX3_sumOfOn 29 = .ok (.invokevirtual 64, 3) := by decide +kernel
theorem dX3_sumOfOn_32 : decode cX3_sumOfOn 32 = .ok (.iadd, 1) := by decide +kernel
theorem dX3_sumOfOn_33 : decode cX3_sumOfOn 33 = .ok (.istore_n 1, 1) := by decide +kernel
theorem dX3_sumOfOn_34 : decode cX3_sumOfOn 34 = .ok (.iinc 2 1, 3) := by decide +kernel
theorem dX3_sumOfOn_37 : decode cX3_sumOfOn 37 = .ok (.goto (-33), 3) := by decide +kernel
theorem dX3_sumOfOn_40 : decode cX3_sumOfOn 40 = .ok (.iload_n 1, 1) := by decide +kernel
theorem dX3_sumOfOn_41 : decode cX3_sumOfOn 41 = .ok (.ireturn, 1) := by decide +kernel
theorem dX3_maskOfOn_0 : decode cX3_maskOfOn 0 = .ok (.iconst 0, 1) := by decide +kernel
theorem dX3_maskOfOn_1 : decode cX3_maskOfOn 1 = .ok (.istore_n 1, 1) := by decide +kernel
theorem dX3_maskOfOn_2 : decode cX3_maskOfOn 2 = .ok (.iconst 0, 1) := by decide +kernel
theorem dX3_maskOfOn_3 : decode cX3_maskOfOn 3 = .ok (.istore_n 2, 1) := by decide +kernel
theorem dX3_maskOfOn_4 : decode cX3_maskOfOn 4 = .ok (.iload_n 2, 1) := by decide +kernel
theorem dX3_maskOfOn_5 : decode cX3_maskOfOn 5 = .ok (.iconst 4, 1) := by decide +kernel
theorem dX3_maskOfOn_6 : decode cX3_maskOfOn 6 = .ok (.if_icmp .ge 27, 3) := by decide +kernel
theorem dX3_maskOfOn_9 : decode cX3_maskOfOn 9 = .ok (.aload_n 0, 1) := by decide +kernel
theorem dX3_maskOfOn_10 : decode cX3_maskOfOn 10 = .ok (.getfield 21, 3) := by decide +kernel
theorem dX3_maskOfOn_13 : decode cX3_maskOfOn 13 = .ok (.iload_n 2, 1) := by decide +kernel
theorem dX3_maskOfOn_14 : decode cX3_maskOfOn 14 = .ok (.aaload, 1) := by decide +kernel
theorem dX3_maskOfOn_15 : decode cX3_maskOfOn 15 = .ok (.getfield 29, 3) := by decide +kernel
theorem dX3_maskOfOn_18 : decode cX3_maskOfOn 18 = .ok (.ifCond .eq 9, 3) := by decide +kernel
theorem dX3_maskOfOn_21 : decode cX3_maskOfOn 21 = .ok (.iload_n 1, 1) := by decide +kernel
theorem dX3_maskOfOn_22 : decode cX3_maskOfOn 22 = .ok (.iconst 1, 1) := by decide +kernel
theorem dX3_maskOfOn_23 : decode cX3_maskOfOn 23 = .ok (.iload_n 2, 1) := by decide +kernel
theorem dX3_maskOfOn_24 : decode cX3_maskOfOn 24 = .ok (.ishl, 1) := by decide +kernel
theorem dX3_maskOfOn_25 : decode cX3_maskOfOn 25 = .ok (.ior, 1) := by decide +kernel
theorem dX3_maskOfOn_26 : decode cX3_maskOfOn 26 = .ok (.istore_n 1, 1) := by decide +kernel
theorem dX3_maskOfOn_27 : decode cX3_maskOfOn 27 = .ok (.iinc 2 1, 3) := by decide +kernel
theorem dX3_maskOfOn_30 : decode cX3_maskOfOn 30 = .ok (.goto (-26), 3) := by decide +kernel
theorem dX3_maskOfOn_33 : decode cX3_maskOfOn 33 = .ok (.iload_n 1, 1) := by decide +kernel
theorem dX3_maskOfOn_34 : decode cX3_maskOfOn 34 = .ok (.ireturn, 1) := by decide +kernel
set_option maxRecDepth 20000 in
theorem ggX3_samplesOfARoundOfAll_X4_samplesOfARound : GoodIn wsX3_samplesOfARoundOfAll wsX4_samplesOfARound := goodIn_r _ [11, 12, 13, 22, 23, 24, 25, 26, 27, 28, 29, 30, 31] (by decide +kernel) (by decide +kernel)
set_option maxRecDepth 20000 in
theorem gX3_samplesOfARoundOfAll_X4_samplesOfARound : GoodIn wsX3_samplesOfARoundOfAll (wsV RX3 68 RX4 yX4_samplesOfARound wsX4_samplesOfARound) := goodIn_app (goodIn_of _ (by decide +kernel)) ggX3_samplesOfARoundOfAll_X4_samplesOfARound
theorem dX3_samplesOfARoundOfAll_0 : decode cX3_samplesOfARoundOfAll 0 = .ok (.iconst 1, 1) := by decide +kernel
theorem dX3_samplesOfARoundOfAll_1 : decode cX3_samplesOfARoundOfAll 1 = .ok (.istore_n 1, 1) := by decide +kernel
theorem dX3_samplesOfARoundOfAll_2 : decode cX3_samplesOfARoundOfAll 2 = .ok (.iconst 0, 1) := by decide +kernel
theorem dX3_samplesOfARoundOfAll_3 : decode cX3_samplesOfARoundOfAll 3 = .ok (.istore_n 2, 1) := by decide +kernel
theorem dX3_samplesOfARoundOfAll_4 : decode cX3_samplesOfARoundOfAll 4 = .ok (.iload_n 2, 1) := by decide +kernel
theorem dX3_samplesOfARoundOfAll_5 : decode cX3_samplesOfARoundOfAll 5 = .ok (.iconst 4, 1) := by decide +kernel
theorem dX3_samplesOfARoundOfAll_6 : decode cX3_samplesOfARoundOfAll 6 = .ok (.if_icmp .ge 35, 3) := by decide +kernel
theorem dX3_samplesOfARoundOfAll_9 : decode cX3_samplesOfARoundOfAll 9 = .ok (.aload_n 0, 1) := by decide +kernel
theorem dX3_samplesOfARoundOfAll_10 : decode cX3_samplesOfARoundOfAll 10 = .ok (.getfield 21, 3) := by decide +kernel
theorem dX3_samplesOfARoundOfAll_13 : decode cX3_samplesOfARoundOfAll 13 = .ok (.iload_n 2, 1) := by decide +kernel
theorem dX3_samplesOfARoundOfAll_14 : decode cX3_samplesOfARoundOfAll 14 = .ok (.aaload, 1) := by decide +kernel
theorem dX3_samplesOfARoundOfAll_15 : decode cX3_samplesOfARoundOfAll 15 = .ok (.getfield 29, 3) := by decide +kernel
theorem dX3_samplesOfARoundOfAll_18 : decode cX3_samplesOfARoundOfAll 18 = .ok (.ifCond .eq 17, 3) := by decide +kernel
theorem dX3_samplesOfARoundOfAll_21 : decode cX3_samplesOfARoundOfAll 21 = .ok (.iload_n 1, 1) := by decide +kernel
theorem dX3_samplesOfARoundOfAll_22 : decode cX3_samplesOfARoundOfAll 22 = .ok (.aload_n 0, 1) := by decide +kernel
theorem dX3_samplesOfARoundOfAll_23 : decode cX3_samplesOfARoundOfAll 23 = .ok (.getfield 21, 3) := by decide +kernel
theorem dX3_samplesOfARoundOfAll_26 : decode cX3_samplesOfARoundOfAll 26 = .ok (.iload_n 2, 1) := by decide +kernel
theorem dX3_samplesOfARoundOfAll_27 : decode cX3_samplesOfARoundOfAll 27 = .ok (.aaload, 1) := by decide +kernel
theorem dX3_samplesOfARoundOfAll_28 : decode cX3_samplesOfARoundOfAll 28 = .ok (.invokevirtual 68, 3) := by decide +kernel
theorem dX3_samplesOfARoundOfAll_31 : decode cX3_samplesOfARoundOfAll 31 = .ok (.invokestatic 72, 3) := by decide +kernel
theorem dX3_samplesOfARoundOfAll_34 : decode cX3_samplesOfARoundOfAll 34 = .ok (.istore_n 1, 1) := by decide +kernel
theorem dX3_samplesOfARoundOfAll_35 : decode cX3_samplesOfARoundOfAll 35 = .ok (.iinc 2 1, 3) := by decide +kernel
theorem dX3_samplesOfARoundOfAll_38 : decode cX3_samplesOfARoundOfAll 38 = .ok (.goto (-34), 3) := by decide +kernel
theorem dX3_samplesOfARoundOfAll_41 : decode cX3_samplesOfARoundOfAll 41 = .ok (.iload_n 1, 1) := by decide +kernel
theorem dX3_samplesOfARoundOfAll_42 : decode cX3_samplesOfARoundOfAll 42 = .ok (.ireturn, 1) := by decide +kernel
theorem dX3_hasNoRoomFor_0 : decode cX3_hasNoRoomFor 0 = .ok (.iload_n 1, 1) := by decide +kernel
theorem dX3_hasNoRoomFor_1 : decode cX3_hasNoRoomFor 1 = .ok (.ldc 78, 2) := by decide +kernel
theorem dX3_hasNoRoomFor_3 : decode cX3_hasNoRoomFor 3 = .ok (.aload_n 0, 1) := by decide +kernel
theorem dX3_hasNoRoomFor_4 : decode cX3_hasNoRoomFor 4 = .ok (.getfield 43, 3) := by decide +kernel
theorem dX3_hasNoRoomFor_7 : decode cX3_hasNoRoomFor 7 = .ok (.isub, 1) := by decide +kernel
theorem dX3_hasNoRoomFor_8 : decode cX3_hasNoRoomFor 8 = .ok (.if_icmp .le 7, 3) := by decide +kernel
theorem dX3_hasNoRoomFor_11 : decode cX3_hasNoRoomFor 11 = .ok (.iconst 1, 1) := by decide +kernel
theorem dX3_hasNoRoomFor_12 : decode cX3_hasNoRoomFor 12 = .ok (.goto 4, 3) := by decide +kernel
theorem dX3_hasNoRoomFor_15 : decode cX3_hasNoRoomFor 15 = .ok (.iconst 0, 1) := by decide +kernel
theorem dX3_hasNoRoomFor_16 : decode cX3_hasNoRoomFor 16 = .ok (.ireturn, 1) := by decide +kernel
set_option maxRecDepth 20000 in
theorem ggX3_makeSome_X3_hasNoRoomFor : GoodIn wsX3_makeSome wsX3_hasNoRoomFor := goodIn_r _ [5, 6, 7, 73, 74, 75, 76, 77, 78, 79, 80] (by decide +kernel) (by decide +kernel)
set_option maxRecDepth 20000 in
theorem gX3_makeSome_X3_hasNoRoomFor : GoodIn wsX3_makeSome (wsV RX3 79 RX3 yX3_hasNoRoomFor wsX3_hasNoRoomFor) := goodIn_app (goodIn_of _ (by decide +kernel)) ggX3_makeSome_X3_hasNoRoomFor
set_option maxRecDepth 20000 in
theorem ggX3_makeSome_X3_makeOne : GoodIn wsX3_makeSome wsX3_makeOne := goodIn_r _ [11, 12, 13, 14, 15, 16, 17, 18, 19, 20, 21, 22, 4, 23, 24, 25, 26, 27, 28, 29, 30, 31, 32, 33, 34, 35, 7, 36, 37, 38, 39, 40, 41, 42, 43, 44, 45, 46, 47, 48, 49, 50, 51, 52, 53, 54, 55, 56, 57, 58, 59, 60, 61, 62, 63, 64, 65, 66, 67, 68, 69, 70, 71, 72, 73, 74, 75, 76, 77, 78, 79, 80, 81, 82, 83, 84, 85, 86, 87, 88, 89, 90] (by decide +kernel) (by decide +kernel)
set_option maxRecDepth 20000 in
theorem gX3_makeSome_X3_makeOne : GoodIn wsX3_makeSome (wsV RX3 83 RX3 yX3_makeOne wsX3_makeOne) := goodIn_app (goodIn_of _ (by decide +kernel)) ggX3_makeSome_X3_makeOne
theorem dX3_makeSome_0 : decode cX3_makeSome 0 = .ok (.aload_n 0, 1) := by decide +kernel
theorem dX3_makeSome_1 : decode cX3_makeSome 1 = .ok (.iload_n 1, 1) := by decide +kernel
theorem dX3_makeSome_2 : decode cX3_makeSome 2 = .ok (.invokevirtual 79, 3) := by decide +kernel
theorem dX3_makeSome_5 : decode cX3_makeSome 5 = .ok (.ifCond .eq 5, 3) := by decide +kernel
theorem dX3_makeSome_8 : decode cX3_makeSome 8 = .ok (.iconst 0, 1) := by decide +kernel
theorem dX3_makeSome_9 : decode cX3_makeSome 9 = .ok (.ireturn, 1) := by decide +kernel
theorem dX3_makeSome_10 : decode cX3_makeSome 10 = .ok (.iconst 0, 1) := by decide +kernel
theorem dX3_makeSome_11 : decode cX3_makeSome 11 = .ok (.istore_n 2, 1) := by decide +kernel
theorem dX3_makeSome_12 : decode cX3_makeSome 12 = .ok (.iload_n 2, 1) := by decide +kernel
theorem dX3_makeSome_13 : decode cX3_makeSome 13 = .ok (.iload_n 1, 1) := by decide +kernel
theorem dX3_makeSome_14 : decode cX3_makeSome 14 = .ok (.if_icmp .ge 13, 3) := by decide +kernel
theorem dX3_makeSome_17 : decode cX3_makeSome 17 = .ok (.aload_n 0, 1) := by decide +kernel
theorem dX3_makeSome_18 : decode cX3_makeSome 18 = .ok (.invokevirtual 83, 3) := by decide +kernel
theorem dX3_makeSome_21 : decode cX3_makeSome 21 = .ok (.iinc 2 1, 3) := by decide +kernel
theorem dX3_makeSome_24 : decode cX3_makeSome 24 = .ok (.goto (-12), 3) := by decide +kernel
theorem dX3_makeSome_27 : decode cX3_makeSome 27 = .ok (.iconst 1, 1) := by decide +kernel
theorem dX3_makeSome_28 : decode cX3_makeSome 28 = .ok (.ireturn, 1) := by decide +kernel
set_option maxRecDepth 20000 in
theorem ggX3_makeOne_X3_sumOfOn : GoodIn wsX3_makeOne wsX3_sumOfOn := goodIn_r _ [13, 7, 8, 14, 15, 16, 12, 17, 18, 19, 20, 21, 64, 65, 66, 67, 68, 69, 70, 71, 72, 73, 74, 75, 76, 77, 78, 79, 80, 81] (by decide +kernel) (by decide +kernel)
set_option maxRecDepth 20000 in
theorem gX3_makeOne_X3_sumOfOn : GoodIn wsX3_makeOne (wsV RX3 86 RX3 yX3_sumOfOn wsX3_sumOfOn) := goodIn_app (goodIn_of _ (by decide +kernel)) ggX3_makeOne_X3_sumOfOn
set_option maxRecDepth 20000 in
theorem ggX3_makeOne_X3_keepMixture : GoodIn wsX3_makeOne wsX3_keepMixture := goodIn_r _ [25, 26, 27, 28, 29, 30, 31, 32, 33, 12, 34, 35, 36, 37, 38, 64, 65, 66, 67, 68, 69, 70, 71] (by decide +kernel) (by decide +kernel)
set_option maxRecDepth 20000 in
theorem gX3_makeOne_X3_keepMixture : GoodIn wsX3_makeOne (wsV RX3 92 RX3 yX3_keepMixture wsX3_keepMixture) := goodIn_app (goodIn_of _ (by decide +kernel)) ggX3_makeOne_X3_keepMixture
set_option maxRecDepth 20000 in
theorem ggX3_makeOne_X4_goOn : GoodIn wsX3_makeOne wsX4_goOn := goodIn_r _ [43, 44, 45, 46, 47, 48, 49, 50, 42, 51, 52, 53, 54, 55, 56, 57, 58, 59, 60, 61, 62, 63, 72, 73, 74, 75, 76, 77, 78, 79, 80, 81] (by decide +kernel) (by decide +kernel)
set_option maxRecDepth 20000 in
theorem gX3_makeOne_X4_goOn : GoodIn wsX3_makeOne (wsV RX3 96 RX4 yX4_goOn wsX4_goOn) := goodIn_app (goodIn_of _ (by decide +kernel)) ggX3_makeOne_X4_goOn
theorem dX3_makeOne_0 : decode cX3_makeOne 0 = .ok (.aload_n 0, 1) := by decide +kernel
theorem dX3_makeOne_1 : decode cX3_makeOne 1 = .ok (.invokevirtual 86, 3) := by decide +kernel
theorem dX3_makeOne_4 : decode cX3_makeOne 4 = .ok (.istore_n 1, 1) := by decide +kernel
theorem dX3_makeOne_5 : decode cX3_makeOne 5 = .ok (.iload_n 1, 1) := by decide +kernel
theorem dX3_makeOne_6 : decode cX3_makeOne 6 = .ok (.aload_n 0, 1) := by decide +kernel
theorem dX3_makeOne_7 : decode cX3_makeOne 7 = .ok (.getfield 9, 3) := by decide +kernel
theorem dX3_makeOne_10 : decode cX3_makeOne 10 = .ok (.if_icmp .le 13, 3) := by decide +kernel
theorem dX3_makeOne_13 : decode cX3_makeOne 13 = .ok (.aload_n 0, 1) := by decide +kernel
theorem dX3_makeOne_14 : decode cX3_makeOne 14 = .ok (.dup, 1) := by decide +kernel
theorem dX3_makeOne_15 : decode cX3_makeOne 15 = .ok (.getfield 46, 3) := by decide +kernel
theorem dX3_makeOne_18 : decode cX3_makeOne 18 = .ok (.iconst 1, 1) := by decide +kernel
theorem dX3_makeOne_19 : decode cX3_makeOne 19 = .ok (.iadd, 1) := by decide +kernel
theorem dX3_makeOne_20 : decode cX3_makeOne 20 = .ok (.putfield 46, 3) := by decide +kernel
theorem dX3_makeOne_23 : decode cX3_makeOne 23 = .ok (.aload_n 0, 1) := by decide +kernel
theorem dX3_makeOne_24 : decode cX3_makeOne 24 = .ok (.iload_n 1, 1) := by decide +kernel
theorem dX3_makeOne_25 : decode cX3_makeOne 25 = .ok (.aload_n 0, 1) := by decide +kernel
theorem dX3_makeOne_26 : decode cX3_makeOne 26 = .ok (.getfield 9, 3) := by decide +kernel
theorem dX3_makeOne_29 : decode cX3_makeOne 29 = .ok (.invokestatic 89, 3) := by decide +kernel
theorem dX3_makeOne_32 : decode cX3_makeOne 32 = .ok (.invokevirtual 92, 3) := by decide +kernel
theorem dX3_makeOne_35 : decode cX3_makeOne 35 = .ok (.iconst 0, 1) := by decide +kernel
theorem dX3_makeOne_36 : decode cX3_makeOne 36 = .ok (.istore_n 2, 1) := by decide +kernel
theorem dX3_makeOne_37 : decode cX3_makeOne 37 = .ok (.iload_n 2, 1) := by decide +kernel
theorem dX3_makeOne_38 : decode cX3_makeOne 38 = .ok (.iconst 4, 1) := by decide +kernel
theorem dX3_makeOne_39 : decode cX3_makeOne 39 = .ok (.if_icmp .ge 30, 3) := by decide +kernel
theorem dX3_makeOne_42 : decode cX3_makeOne 42 = .ok (.aload_n 0, 1) := by decide +kernel
theorem dX3_makeOne_43 : decode cX3_makeOne 43 = .ok (.getfield 21, 3) := by decide +kernel
theorem dX3_makeOne_46 : decode cX3_makeOne 46 = .ok (.iload_n 2, 1) := by decide +kernel
theorem dX3_makeOne_47 : decode cX3_makeOne 47 = .ok (.aaload, 1) := by decide +kernel
theorem dX3_makeOne_48 : decode cX3_makeOne 48 = .ok (.getfield 29, 3) := by decide +kernel
theorem dX3_makeOne_51 : decode cX3_makeOne 51 = .ok (.ifCond .eq 12, 3) := by decide +kernel
theorem dX3_makeOne_54 : decode cX3_makeOne 54 = .ok (.aload_n 0, 1) := by decide +kernel
theorem dX3_makeOne_55 : decode cX3_makeOne 55 = .ok (.getfield 21, 3) := by decide +kernel
theorem dX3_makeOne_58 : decode cX3_makeOne 58 = .ok (.iload_n 2, 1) := by decide +kernel
theorem dX3_makeOne_59 : decode cX3_makeOne 59 = .ok (.aaload, 1) := by decide +kernel
theorem dX3_makeOne_60 : decode cX3_makeOne 60 = .ok (.invokevirtual 96, 3) := by decide +kernel
theorem dX3_makeOne_63 : decode cX3_makeOne 63 = .ok (.iinc 2 1, 3) := by decide +kernel
theorem dX3_makeOne_66 : decode cX3_makeOne 66 = .ok (.goto (-29), 3) := by decide +kernel
theorem dX3_makeOne_69 : decode cX3_makeOne 69 = .ok (.return_, 1) := by decide +kernel
set_option maxRecDepth 20000 in
theorem ggX3_keepMixture_X3_mixtureAgo : GoodIn wsX3_keepMixture wsX3_mixtureAgo := goodIn_r _ [10, 5, 1, 11, 12, 13, 14, 15, 16, 17, 18, 19, 20, 21, 22] (by decide +kernel) (by decide +kernel)
set_option maxRecDepth 20000 in
theorem gX3_keepMixture_X3_mixtureAgo : GoodIn wsX3_keepMixture (wsV RX3 99 RX3 yX3_mixtureAgo wsX3_mixtureAgo) := goodIn_app (goodIn_of _ (by decide +kernel)) ggX3_keepMixture_X3_mixtureAgo
set_option maxRecDepth 20000 in
theorem ggX3_keepMixture_J9_floorMod_7cf53 : GoodIn wsX3_keepMixture wsJ9_floorMod_7cf53 := goodIn_r _ [14] (by decide +kernel) (by decide +kernel)
set_option maxRecDepth 20000 in
theorem gX3_keepMixture_J9_floorMod_7cf53 : GoodIn wsX3_keepMixture (va_wsS RX3 104 yJ9_floorMod_7cf53 wsJ9_floorMod_7cf53) := goodIn_app (goodIn_of _ (by decide +kernel)) ggX3_keepMixture_J9_floorMod_7cf53
theorem dX3_keepMixture_0 : decode cX3_keepMixture 0 = .ok (.aload_n 0, 1) := by decide +kernel
theorem dX3_keepMixture_1 : decode cX3_keepMixture 1 = .ok (.getfield 43, 3) := by decide +kernel
theorem dX3_keepMixture_4 : decode cX3_keepMixture 4 = .ok (.ifCond .le 22, 3) := by decide +kernel
theorem dX3_keepMixture_7 : decode cX3_keepMixture 7 = .ok (.iload_n 1, 1) := by decide +kernel
theorem dX3_keepMixture_8 : decode cX3_keepMixture 8 = .ok (.aload_n 0, 1) := by decide +kernel
theorem dX3_keepMixture_9 : decode cX3_keepMixture 9 = .ok (.iconst 0, 1) := by decide +kernel
theorem dX3_keepMixture_10 : decode cX3_keepMixture 10 = .ok (.invokevirtual 99, 3) := by decide +kernel
theorem dX3_keepMixture_13 : decode cX3_keepMixture 13 = .ok (.if_icmp .le 13, 3) := by decide +kernel
theorem dX3_keepMixture_16 : decode cX3_keepMixture 16 = .ok (.aload_n 0, 1) := by decide +kernel
theorem dX3_keepMixture_17 : decode cX3_keepMixture 17 = .ok (.dup, 1) := by decide +kernel
theorem dX3_keepMixture_18 : decode cX3_keepMixture 18 = .ok (.getfield 52, 3) := by decide +kernel
theorem dX3_keepMixture_21 : decode cX3_keepMixture 21 = .ok (.iconst 1, 1) := by decide +kernel
theorem dX3_keepMixture_22 : decode cX3_keepMixture 22 = .ok (.iadd, 1) := by decide +kernel
theorem dX3_keepMixture_23 : decode cX3_keepMixture 23 = .ok (.putfield 52, 3) := by decide +kernel
theorem dX3_keepMixture_26 : decode cX3_keepMixture 26 = .ok (.aload_n 0, 1) := by decide +kernel
theorem dX3_keepMixture_27 : decode cX3_keepMixture 27 = .ok (.aload_n 0, 1) := by decide +kernel
theorem dX3_keepMixture_28 : decode cX3_keepMixture 28 = .ok (.getfield 49, 3) := by decide +kernel
theorem dX3_keepMixture_31 : decode cX3_keepMixture 31 = .ok (.iload_n 1, 1) := by decide +kernel
theorem dX3_keepMixture_32 : decode cX3_keepMixture 32 = .ok (.iadd, 1) := by decide +kernel
theorem dX3_keepMixture_33 : decode cX3_keepMixture 33 = .ok (.ldc 103, 2) := by decide +kernel
theorem dX3_keepMixture_35 : decode cX3_keepMixture 35 = .ok (.irem, 1) := by decide +kernel
theorem dX3_keepMixture_36 : decode cX3_keepMixture 36 = .ok (.putfield 49, 3) := by decide +kernel
theorem dX3_keepMixture_39 : decode cX3_keepMixture 39 = .ok (.aload_n 0, 1) := by decide +kernel
theorem dX3_keepMixture_40 : decode cX3_keepMixture 40 = .ok (.getfield 25, 3) := by decide +kernel
theorem dX3_keepMixture_43 : decode cX3_keepMixture 43 = .ok (.aload_n 0, 1) := by decide +kernel
theorem dX3_keepMixture_44 : decode cX3_keepMixture 44 = .ok (.getfield 43, 3) := by decide +kernel
theorem dX3_keepMixture_47 : decode cX3_keepMixture 47 = .ok (.bipush 32, 2) := by decide +kernel
theorem dX3_keepMixture_49 : decode cX3_keepMixture 49 = .ok (.invokestatic 104, 3) := by decide +kernel
theorem dX3_keepMixture_52 : decode cX3_keepMixture 52 = .ok (.iload_n 1, 1) := by decide +kernel
theorem dX3_keepMixture_53 : decode cX3_keepMixture 53 = .ok (.iastore, 1) := by decide +kernel
theorem dX3_keepMixture_54 : decode cX3_keepMixture 54 = .ok (.aload_n 0, 1) := by decide +kernel
theorem dX3_keepMixture_55 : decode cX3_keepMixture 55 = .ok (.dup, 1) := by decide +kernel
theorem dX3_keepMixture_56 : decode cX3_keepMixture 56 = .ok (.getfield 43, 3) := by decide +kernel
theorem dX3_keepMixture_59 : decode cX3_keepMixture 59 = .ok (.iconst 1, 1) := by decide +kernel
theorem dX3_keepMixture_60 : decode cX3_keepMixture 60 = .ok (.iadd, 1) := by decide +kernel
theorem dX3_keepMixture_61 : decode cX3_keepMixture 61 = .ok (.putfield 43, 3) := by decide +kernel
theorem dX3_keepMixture_64 : decode cX3_keepMixture 64 = .ok (.return_, 1) := by decide +kernel
set_option maxRecDepth 20000 in
theorem ggX3_mixtureAgo_J9_floorMod_7cf53 : GoodIn wsX3_mixtureAgo wsJ9_floorMod_7cf53 := goodIn_r _ [6] (by decide +kernel) (by decide +kernel)
set_option maxRecDepth 20000 in
theorem gX3_mixtureAgo_J9_floorMod_7cf53 : GoodIn wsX3_mixtureAgo (va_wsS RX3 104 yJ9_floorMod_7cf53 wsJ9_floorMod_7cf53) := goodIn_app (goodIn_of _ (by decide +kernel)) ggX3_mixtureAgo_J9_floorMod_7cf53
theorem dX3_mixtureAgo_0 : decode cX3_mixtureAgo 0 = .ok (.aload_n 0, 1) := by decide +kernel
theorem dX3_mixtureAgo_1 : decode cX3_mixtureAgo 1 = .ok (.getfield 25, 3) := by decide +kernel
theorem dX3_mixtureAgo_4 : decode cX3_mixtureAgo 4 = .ok (.aload_n 0, 1) := by decide +kernel
theorem dX3_mixtureAgo_5 : decode cX3_mixtureAgo 5 = .ok (.getfield 43, 3) := by decide +kernel
theorem dX3_mixtureAgo_8 : decode cX3_mixtureAgo 8 = .ok (.iconst 1, 1) := by decide +kernel
theorem dX3_mixtureAgo_9 : decode cX3_mixtureAgo 9 = .ok (.isub, 1) := by decide +kernel
theorem dX3_mixtureAgo_10 : decode cX3_mixtureAgo 10 = .ok (.iload_n 1, 1) := by decide +kernel
theorem dX3_mixtureAgo_11 : decode cX3_mixtureAgo 11 = .ok (.isub, 1) := by decide +kernel
theorem dX3_mixtureAgo_12 : decode cX3_mixtureAgo 12 = .ok (.bipush 32, 2) := by decide +kernel
theorem dX3_mixtureAgo_14 : decode cX3_mixtureAgo 14 = .ok (.invokestatic 104, 3) := by decide +kernel
theorem dX3_mixtureAgo_17 : decode cX3_mixtureAgo 17 = .ok (.iaload, 1) := by decide +kernel
theorem dX3_mixtureAgo_18 : decode cX3_mixtureAgo 18 = .ok (.ireturn, 1) := by decide +kernel
theorem dX4_init_0 : decode cX4_init 0 = .ok (.aload_n 0, 1) := by decide +kernel
theorem dX4_init_1 : decode cX4_init 1 = .ok (.invokespecial 3, 3) := by decide +kernel
theorem dX4_init_4 : decode cX4_init 4 = .ok (.aload_n 0, 1) := by decide +kernel
theorem dX4_init_5 : decode cX4_init 5 = .ok (.sipush 1024, 3) := by decide +kernel
theorem dX4_init_8 : decode cX4_init 8 = .ok (.putfield 9, 3) := by decide +kernel
theorem dX4_init_11 : decode cX4_init 11 = .ok (.aload_n 0, 1) := by decide +kernel
theorem dX4_init_12 : decode cX4_init 12 = .ok (.bipush 8, 2) := by decide +kernel
theorem dX4_init_14 : decode cX4_init 14 = .ok (.putfield 15, 3) := by decide +kernel
theorem dX4_init_17 : decode cX4_init 17 = .ok (.aload_n 0, 1) := by decide +kernel
theorem dX4_init_18 : decode cX4_init 18 = .ok (.iconst 4, 1) := by decide +kernel
theorem dX4_init_19 : decode cX4_init 19 = .ok (.newarray .int, 2) := by decide +kernel
theorem dX4_init_21 : decode cX4_init 21 = .ok (.putfield 18, 3) := by decide +kernel
theorem dX4_init_24 : decode cX4_init 24 = .ok (.aload_n 0, 1) := by decide +kernel
theorem dX4_init_25 : decode cX4_init 25 = .ok (.iconst 4, 1) := by decide +kernel
theorem dX4_init_26 : decode cX4_init 26 = .ok (.newarray .int, 2) := by decide +kernel
theorem dX4_init_28 : decode cX4_init 28 = .ok (.putfield 22, 3) := by decide +kernel
theorem dX4_init_31 : decode cX4_init 31 = .ok (.return_, 1) := by decide +kernel
theorem dX4_takeOver_0 : decode cX4_takeOver 0 = .ok (.aload_n 0, 1) := by decide +kernel
theorem dX4_takeOver_1 : decode cX4_takeOver 1 = .ok (.aload_n 1, 1) := by decide +kernel
theorem dX4_takeOver_2 : decode cX4_takeOver 2 = .ok (.getfield 25, 3) := by decide +kernel
theorem dX4_takeOver_5 : decode cX4_takeOver 5 = .ok (.putfield 25, 3) := by decide +kernel
theorem dX4_takeOver_8 : decode cX4_takeOver 8 = .ok (.aload_n 0, 1) := by decide +kernel
theorem dX4_takeOver_9 : decode cX4_takeOver 9 = .ok (.aload_n 1, 1) := by decide +kernel
theorem dX4_takeOver_10 : decode cX4_takeOver 10 = .ok (.getfield 9, 3) := by decide +kernel
theorem dX4_takeOver_13 : decode cX4_takeOver 13 = .ok (.putfield 9, 3) := by decide +kernel
theorem dX4_takeOver_16 : decode cX4_takeOver 16 = .ok (.aload_n 0, 1) := by decide +kernel
theorem dX4_takeOver_17 : decode cX4_takeOver 17 = .ok (.aload_n 1, 1) := by decide +kernel
theorem dX4_takeOver_18 : decode cX4_takeOver 18 = .ok (.getfield 28, 3) := by decide +kernel
theorem dX4_takeOver_21 : decode cX4_takeOver 21 = .ok (.putfield 28, 3) := by decide +kernel
theorem dX4_takeOver_24 : decode cX4_takeOver 24 = .ok (.aload_n 0, 1) := by decide +kernel
theorem dX4_takeOver_25 : decode cX4_takeOver 25 = .ok (.aload_n 1, 1) := by decide +kernel
theorem dX4_takeOver_26 : decode cX4_takeOver 26 = .ok (.getfield 15, 3) := by decide +kernel
theorem dX4_takeOver_29 : decode cX4_takeOver 29 = .ok (.putfield 15, 3) := by decide +kernel
theorem dX4_takeOver_32 : decode cX4_takeOver 32 = .ok (.aload_n 0, 1) := by decide +kernel
theorem dX4_takeOver_33 : decode cX4_takeOver 33 = .ok (.aload_n 1, 1) := by decide +kernel
theorem dX4_takeOver_34 : decode cX4_takeOver 34 = .ok (.getfield 31, 3) := by decide +kernel
theorem dX4_takeOver_37 : decode cX4_takeOver 37 = .ok (.putfield 31, 3) := by decide +kernel
theorem dX4_takeOver_40 : decode cX4_takeOver 40 = .ok (.aload_n 0, 1) := by decide +kernel
theorem dX4_takeOver_41 : decode cX4_takeOver 41 = .ok (.aload_n 1, 1) := by decide +kernel
theorem dX4_takeOver_42 : decode cX4_takeOver 42 = .ok (.getfield 35, 3) := by decide +kernel
theorem dX4_takeOver_45 : decode cX4_takeOver 45 = .ok (.putfield 35, 3) := by decide +kernel
theorem dX4_takeOver_48 : decode cX4_takeOver 48 = .ok (.aload_n 1, 1) := by decide +kernel
theorem dX4_takeOver_49 : decode cX4_takeOver 49 = .ok (.getfield 18, 3) := by decide +kernel
theorem dX4_takeOver_52 : decode cX4_takeOver 52 = .ok (.iconst 0, 1) := by decide +kernel
theorem dX4_takeOver_53 : decode cX4_takeOver 53 = .ok (.aload_n 0, 1) := by decide +kernel
theorem dX4_takeOver_54 : decode cX4_takeOver 54 = .ok (.getfield 18, 3) := by decide +kernel
theorem dX4_takeOver_57 : decode cX4_takeOver 57 = .ok (.iconst 0, 1) := by decide +kernel
theorem dX4_takeOver_58 : decode cX4_takeOver 58 = .ok (.iconst 4, 1) := by decide +kernel
theorem dX4_takeOver_59 : decode cX4_takeOver 59 = .ok (.invokestatic 38, 3) := by decide +kernel
theorem dX4_takeOver_62 : decode cX4_takeOver 62 = .ok (.aload_n 1, 1) := by decide +kernel
theorem dX4_takeOver_63 : decode cX4_takeOver 63 = .ok (.getfield 22, 3) := by decide +kernel
theorem dX4_takeOver_66 : decode cX4_takeOver 66 = .ok (.iconst 0, 1) := by decide +kernel
theorem dX4_takeOver_67 : decode cX4_takeOver 67 = .ok (.aload_n 0, 1) := by decide +kernel
theorem dX4_takeOver_68 : decode cX4_takeOver 68 = .ok (.getfield 22, 3) := by decide +kernel
theorem dX4_takeOver_71 : decode cX4_takeOver 71 = .ok (.iconst 0, 1) := by decide +kernel
theorem dX4_takeOver_72 : decode cX4_takeOver 72 = .ok (.iconst 4, 1) := by decide +kernel
theorem dX4_takeOver_73 : decode cX4_takeOver 73 = .ok (.invokestatic 38, 3) := by decide +kernel
theorem dX4_takeOver_76 : decode cX4_takeOver 76 = .ok (.aload_n 0, 1) := by decide +kernel
theorem dX4_takeOver_77 : decode cX4_takeOver 77 = .ok (.aload_n 1, 1) := by decide +kernel
theorem dX4_takeOver_78 : decode cX4_takeOver 78 = .ok (.getfield 44, 3) := by decide +kernel
theorem dX4_takeOver_81 : decode cX4_takeOver 81 = .ok (.putfield 44, 3) := by decide +kernel
theorem dX4_takeOver_84 : decode cX4_takeOver 84 = .ok (.aload_n 0, 1) := by decide +kernel
theorem dX4_takeOver_85 : decode cX4_takeOver 85 = .ok (.aload_n 1, 1) := by decide +kernel
theorem dX4_takeOver_86 : decode cX4_takeOver 86 = .ok (.getfield 47, 3) := by decide +kernel
theorem dX4_takeOver_89 : decode cX4_takeOver 89 = .ok (.putfield 47, 3) := by decide +kernel
theorem dX4_takeOver_92 : decode cX4_takeOver 92 = .ok (.return_, 1) := by decide +kernel
theorem dX4_changeStep_0 : decode cX4_changeStep 0 = .ok (.aload_n 0, 1) := by decide +kernel
theorem dX4_changeStep_1 : decode cX4_changeStep 1 = .ok (.iload_n 1, 1) := by decide +kernel
theorem dX4_changeStep_2 : decode cX4_changeStep 2 = .ok (.putfield 9, 3) := by decide +kernel
theorem dX4_changeStep_5 : decode cX4_changeStep 5 = .ok (.aload_n 0, 1) := by decide +kernel
theorem dX4_changeStep_6 : decode cX4_changeStep 6 = .ok (.iconst 0, 1) := by decide +kernel
theorem dX4_changeStep_7 : decode cX4_changeStep 7 = .ok (.putfield 35, 3) := by decide +kernel
theorem dX4_changeStep_10 : decode cX4_changeStep 10 = .ok (.return_, 1) := by decide +kernel
set_option maxRecDepth 20000 in
theorem ggX4_addSweep_X4_beginSweep : GoodIn wsX4_addSweep wsX4_beginSweep := goodIn_r _ [8, 9, 10, 11, 12, 13, 14, 15, 16, 17, 18, 19, 20, 21] (by decide +kernel) (by decide +kernel)
set_option maxRecDepth 20000 in
theorem gX4_addSweep_X4_beginSweep : GoodIn wsX4_addSweep (wsV RX4 50 RX4 yX4_beginSweep wsX4_beginSweep) := goodIn_app (goodIn_of _ (by decide +kernel)) ggX4_addSweep_X4_beginSweep
theorem dX4_addSweep_0 : decode cX4_addSweep 0 = .ok (.aload_n 0, 1) := by decide +kernel
theorem dX4_addSweep_1 : decode cX4_addSweep 1 = .ok (.getfield 35, 3) := by decide +kernel
theorem dX4_addSweep_4 : decode cX4_addSweep 4 = .ok (.ifCond .lt 11, 3) := by decide +kernel
theorem dX4_addSweep_7 : decode cX4_addSweep 7 = .ok (.aload_n 0, 1) := by decide +kernel
theorem dX4_addSweep_8 : decode cX4_addSweep 8 = .ok (.getfield 35, 3) := by decide +kernel
theorem dX4_addSweep_11 : decode cX4_addSweep 11 = .ok (.iconst 4, 1) := by decide +kernel
theorem dX4_addSweep_12 : decode cX4_addSweep 12 = .ok (.if_icmp .lt 5, 3) := by decide +kernel
theorem dX4_addSweep_15 : decode cX4_addSweep 15 = .ok (.iconst 0, 1) := by decide +kernel
theorem dX4_addSweep_16 : decode cX4_addSweep 16 = .ok (.ireturn, 1) := by decide +kernel
theorem dX4_addSweep_17 : decode cX4_addSweep 17 = .ok (.aload_n 0, 1) := by decide +kernel
theorem dX4_addSweep_18 : decode cX4_addSweep 18 = .ok (.getfield 35, 3) := by decide +kernel
theorem dX4_addSweep_21 : decode cX4_addSweep 21 = .ok (.ifCond .ne 7, 3) := by decide +kernel
theorem dX4_addSweep_24 : decode cX4_addSweep 24 = .ok (.aload_n 0, 1) := by decide +kernel
theorem dX4_addSweep_25 : decode cX4_addSweep 25 = .ok (.invokevirtual 50, 3) := by decide +kernel
theorem dX4_addSweep_28 : decode cX4_addSweep 28 = .ok (.aload_n 0, 1) := by decide +kernel
theorem dX4_addSweep_29 : decode cX4_addSweep 29 = .ok (.getfield 18, 3) := by decide +kernel
theorem dX4_addSweep_32 : decode cX4_addSweep 32 = .ok (.aload_n 0, 1) := by decide +kernel
theorem dX4_addSweep_33 : decode cX4_addSweep 33 = .ok (.getfield 35, 3) := by decide +kernel
theorem dX4_addSweep_36 : decode cX4_addSweep 36 = .ok (.iload_n 1, 1) := by decide +kernel
theorem dX4_addSweep_37 : decode cX4_addSweep 37 = .ok (.iastore, 1) := by decide +kernel
theorem dX4_addSweep_38 : decode cX4_addSweep 38 = .ok (.aload_n 0, 1) := by decide +kernel
theorem dX4_addSweep_39 : decode cX4_addSweep 39 = .ok (.getfield 22, 3) := by decide +kernel
theorem dX4_addSweep_42 : decode cX4_addSweep 42 = .ok (.aload_n 0, 1) := by decide +kernel
theorem dX4_addSweep_43 : decode cX4_addSweep 43 = .ok (.getfield 35, 3) := by decide +kernel
theorem dX4_addSweep_46 : decode cX4_addSweep 46 = .ok (.iload_n 2, 1) := by decide +kernel
theorem dX4_addSweep_47 : decode cX4_addSweep 47 = .ok (.iastore, 1) := by decide +kernel
theorem dX4_addSweep_48 : decode cX4_addSweep 48 = .ok (.aload_n 0, 1) := by decide +kernel
theorem dX4_addSweep_49 : decode cX4_addSweep 49 = .ok (.dup, 1) := by decide +kernel
theorem dX4_addSweep_50 : decode cX4_addSweep 50 = .ok (.getfield 35, 3) := by decide +kernel
theorem dX4_addSweep_53 : decode cX4_addSweep 53 = .ok (.iconst 1, 1) := by decide +kernel
theorem dX4_addSweep_54 : decode cX4_addSweep 54 = .ok (.iadd, 1) := by decide +kernel
theorem dX4_addSweep_55 : decode cX4_addSweep 55 = .ok (.putfield 35, 3) := by decide +kernel
theorem dX4_addSweep_58 : decode cX4_addSweep 58 = .ok (.iconst 1, 1) := by decide +kernel
theorem dX4_addSweep_59 : decode cX4_addSweep 59 = .ok (.ireturn, 1) := by decide +kernel
theorem dX4_beginSweep_0 : decode cX4_beginSweep 0 = .ok (.aload_n 0, 1) := by decide +kernel
theorem dX4_beginSweep_1 : decode cX4_beginSweep 1 = .ok (.aload_n 0, 1) := by decide +kernel
theorem dX4_beginSweep_2 : decode cX4_beginSweep 2 = .ok (.getfield 9, 3) := by decide +kernel
theorem dX4_beginSweep_5 : decode cX4_beginSweep 5 = .ok (.putfield 44, 3) := by decide +kernel
theorem dX4_beginSweep_8 : decode cX4_beginSweep 8 = .ok (.aload_n 0, 1) := by decide +kernel
theorem dX4_beginSweep_9 : decode cX4_beginSweep 9 = .ok (.iconst 0, 1) := by decide +kernel
theorem dX4_beginSweep_10 : decode cX4_beginSweep 10 = .ok (.putfield 47, 3) := by decide +kernel
theorem dX4_beginSweep_13 : decode cX4_beginSweep 13 = .ok (.return_, 1) := by decide +kernel
set_option maxRecDepth 20000 in
theorem ggX4_goOn_X4_goOnSweeping : GoodIn wsX4_goOn wsX4_goOnSweeping := goodIn_r _ [9, 10, 11, 12, 13, 2, 14, 15, 16, 8, 17, 4, 18, 19, 20, 21, 22, 23, 24, 25, 26, 27, 28, 29, 30, 31] (by decide +kernel) (by decide +kernel)
set_option maxRecDepth 20000 in
theorem gX4_goOn_X4_goOnSweeping : GoodIn wsX4_goOn (wsV RX4 54 RX4 yX4_goOnSweeping wsX4_goOnSweeping) := goodIn_app (goodIn_of _ (by decide +kernel)) ggX4_goOn_X4_goOnSweeping
theorem dX4_goOn_0 : decode cX4_goOn 0 = .ok (.aload_n 0, 1) := by decide +kernel
theorem dX4_goOn_1 : decode cX4_goOn 1 = .ok (.aload_n 0, 1) := by decide +kernel
theorem dX4_goOn_2 : decode cX4_goOn 2 = .ok (.getfield 25, 3) := by decide +kernel
theorem dX4_goOn_5 : decode cX4_goOn 5 = .ok (.aload_n 0, 1) := by decide +kernel
theorem dX4_goOn_6 : decode cX4_goOn 6 = .ok (.getfield 9, 3) := by decide +kernel
theorem dX4_goOn_9 : decode cX4_goOn 9 = .ok (.iadd, 1) := by decide +kernel
theorem dX4_goOn_10 : decode cX4_goOn 10 = .ok (.ldc 53, 2) := by decide +kernel
theorem dX4_goOn_12 : decode cX4_goOn 12 = .ok (.irem, 1) := by decide +kernel
theorem dX4_goOn_13 : decode cX4_goOn 13 = .ok (.putfield 25, 3) := by decide +kernel
theorem dX4_goOn_16 : decode cX4_goOn 16 = .ok (.aload_n 0, 1) := by decide +kernel
theorem dX4_goOn_17 : decode cX4_goOn 17 = .ok (.getfield 35, 3) := by decide +kernel
theorem dX4_goOn_20 : decode cX4_goOn 20 = .ok (.ifCond .le 7, 3) := by decide +kernel
theorem dX4_goOn_23 : decode cX4_goOn 23 = .ok (.aload_n 0, 1) := by decide +kernel
theorem dX4_goOn_24 : decode cX4_goOn 24 = .ok (.invokevirtual 54, 3) := by decide +kernel
theorem dX4_goOn_27 : decode cX4_goOn 27 = .ok (.return_, 1) := by decide +kernel
set_option maxRecDepth 20000 in
theorem ggX4_goOnSweeping_X4_dropFirstSweep : GoodIn wsX4_goOnSweeping wsX4_dropFirstSweep := goodIn_r _ [10, 11, 4, 1, 16, 17, 18, 19, 20, 21, 22, 23, 24, 25] (by decide +kernel) (by decide +kernel)
set_option maxRecDepth 20000 in
theorem gX4_goOnSweeping_X4_dropFirstSweep : GoodIn wsX4_goOnSweeping (wsV RX4 57 RX4 yX4_dropFirstSweep wsX4_dropFirstSweep) := goodIn_app (goodIn_of _ (by decide +kernel)) ggX4_goOnSweeping_X4_dropFirstSweep
set_option maxRecDepth 20000 in
theorem ggX4_goOnSweeping_X4_beginSweep : GoodIn wsX4_goOnSweeping wsX4_beginSweep := goodIn_r _ [15, 5, 3, 2, 16, 17, 18, 19, 20, 21, 22, 23, 24, 25] (by decide +kernel) (by decide +kernel)
set_option maxRecDepth 20000 in
theorem gX4_goOnSweeping_X4_beginSweep : GoodIn wsX4_goOnSweeping (wsV RX4 50 RX4 yX4_beginSweep wsX4_beginSweep) := goodIn_app (goodIn_of _ (by decide +kernel)) ggX4_goOnSweeping_X4_beginSweep
theorem dX4_goOnSweeping_0 : decode cX4_goOnSweeping 0 = .ok (.aload_n 0, 1) := by decide +kernel
theorem dX4_goOnSweeping_1 : decode cX4_goOnSweeping 1 = .ok (.getfield 22, 3) := by decide +kernel
theorem dX4_goOnSweeping_4 : decode cX4_goOnSweeping 4 = .ok (.iconst 0, 1) := by decide +kernel
theorem dX4_goOnSweeping_5 : decode cX4_goOnSweeping 5 = .ok (.iaload, 1) := by decide +kernel
theorem dX4_goOnSweeping_6 : decode cX4_goOnSweeping 6 = .ok (.istore_n 1, 1) := by decide +kernel
theorem dX4_goOnSweeping_7 : decode cX4_goOnSweeping 7 = .ok (.iload_n 1, 1) := by decide +kernel
theorem dX4_goOnSweeping_8 : decode cX4_goOnSweeping 8 = .ok (.ifCond .gt 4, 3) := by decide +kernel
theorem dX4_goOnSweeping_11 : decode cX4_goOnSweeping 11 = .ok (.return_, 1) := by decide +kernel
theorem dX4_goOnSweeping_12 : decode cX4_goOnSweeping 12 = .ok (.aload_n 0, 1) := by decide +kernel
theorem dX4_goOnSweeping_13 : decode cX4_goOnSweeping 13 = .ok (.dup, 1) := by decide +kernel
theorem dX4_goOnSweeping_14 : decode cX4_goOnSweeping 14 = .ok (.getfield 47, 3) := by decide +kernel
theorem dX4_goOnSweeping_17 : decode cX4_goOnSweeping 17 = .ok (.iconst 1, 1) := by decide +kernel
theorem dX4_goOnSweeping_18 : decode cX4_goOnSweeping 18 = .ok (.iadd, 1) := by decide +kernel
theorem dX4_goOnSweeping_19 : decode cX4_goOnSweeping 19 = .ok (.putfield 47, 3) := by decide +kernel
theorem dX4_goOnSweeping_22 : decode cX4_goOnSweeping 22 = .ok (.aload_n 0, 1) := by decide +kernel
theorem dX4_goOnSweeping_23 : decode cX4_goOnSweeping 23 = .ok (.aload_n 0, 1) := by decide +kernel
theorem dX4_goOnSweeping_24 : decode cX4_goOnSweeping 24 = .ok (.getfield 44, 3) := by decide +kernel
theorem dX4_goOnSweeping_27 : decode cX4_goOnSweeping 27 = .ok (.aload_n 0, 1) := by decide +kernel
theorem dX4_goOnSweeping_28 : decode cX4_goOnSweeping 28 = .ok (.getfield 18, 3) := by decide +kernel
theorem dX4_goOnSweeping_31 : decode cX4_goOnSweeping 31 = .ok (.iconst 0, 1) := by decide +kernel
theorem dX4_goOnSweeping_32 : decode cX4_goOnSweeping 32 = .ok (.iaload, 1) := by decide +kernel
theorem dX4_goOnSweeping_33 : decode cX4_goOnSweeping 33 = .ok (.aload_n 0, 1) := by decide +kernel
theorem dX4_goOnSweeping_34 : decode cX4_goOnSweeping 34 = .ok (.getfield 44, 3) := by decide +kernel
theorem dX4_goOnSweeping_37 : decode cX4_goOnSweeping 37 = .ok (.isub, 1) := by decide +kernel
theorem dX4_goOnSweeping_38 : decode cX4_goOnSweeping 38 = .ok (.aload_n 0, 1) := by decide +kernel
theorem dX4_goOnSweeping_39 : decode cX4_goOnSweeping 39 = .ok (.getfield 47, 3) := by decide +kernel
theorem dX4_goOnSweeping_42 : decode cX4_goOnSweeping 42 = .ok (.imul, 1) := by decide +kernel
theorem dX4_goOnSweeping_43 : decode cX4_goOnSweeping 43 = .ok (.iload_n 1, 1) := by decide +kernel
theorem dX4_goOnSweeping_44 : decode cX4_goOnSweeping 44 = .ok (.idiv, 1) := by decide +kernel
theorem dX4_goOnSweeping_45 : decode cX4_goOnSweeping 45 = .ok (.iadd, 1) := by decide +kernel
theorem dX4_goOnSweeping_46 : decode cX4_goOnSweeping 46 = .ok (.putfield 9, 3) := by decide +kernel
theorem dX4_goOnSweeping_49 : decode cX4_goOnSweeping 49 = .ok (.aload_n 0, 1) := by decide +kernel
theorem dX4_goOnSweeping_50 : decode cX4_goOnSweeping 50 = .ok (.getfield 47, 3) := by decide +kernel
theorem dX4_goOnSweeping_53 : decode cX4_goOnSweeping 53 = .ok (.iload_n 1, 1) := by decide +kernel
theorem dX4_goOnSweeping_54 : decode cX4_goOnSweeping 54 = .ok (.if_icmp .lt 11, 3) := by decide +kernel
theorem dX4_goOnSweeping_57 : decode cX4_goOnSweeping 57 = .ok (.aload_n 0, 1) := by decide +kernel
theorem dX4_goOnSweeping_58 : decode cX4_goOnSweeping 58 = .ok (.invokevirtual 57, 3) := by decide +kernel
theorem dX4_goOnSweeping_61 : decode cX4_goOnSweeping 61 = .ok (.aload_n 0, 1) := by decide +kernel
theorem dX4_goOnSweeping_62 : decode cX4_goOnSweeping 62 = .ok (.invokevirtual 50, 3) := by decide +kernel
theorem dX4_goOnSweeping_65 : decode cX4_goOnSweeping 65 = .ok (.return_, 1) := by decide +kernel
theorem dX4_dropFirstSweep_0 : decode cX4_dropFirstSweep 0 = .ok (.aload_n 0, 1) := by decide +kernel
theorem dX4_dropFirstSweep_1 : decode cX4_dropFirstSweep 1 = .ok (.dup, 1) := by decide +kernel
theorem dX4_dropFirstSweep_2 : decode cX4_dropFirstSweep 2 = .ok (.getfield 35, 3) := by decide +kernel
theorem dX4_dropFirstSweep_5 : decode cX4_dropFirstSweep 5 = .ok (.iconst 1, 1) := by decide +kernel
theorem dX4_dropFirstSweep_6 : decode cX4_dropFirstSweep 6 = .ok (.isub, 1) := by decide +kernel
theorem dX4_dropFirstSweep_7 : decode cX4_dropFirstSweep 7 = .ok (.putfield 35, 3) := by decide +kernel
theorem dX4_dropFirstSweep_10 : decode cX4_dropFirstSweep 10 = .ok (.iconst 0, 1) := by decide +kernel
theorem dX4_dropFirstSweep_11 : decode cX4_dropFirstSweep 11 = .ok (.istore_n 1, 1) := by decide +kernel
theorem dX4_dropFirstSweep_12 : decode cX4_dropFirstSweep 12 = .ok (.iload_n 1, 1) := by decide +kernel
theorem dX4_dropFirstSweep_13 : decode cX4_dropFirstSweep 13 = .ok (.aload_n 0, 1) := by decide +kernel
theorem dX4_dropFirstSweep_14 : decode cX4_dropFirstSweep 14 = .ok (.getfield 35, 3) := by decide +kernel
theorem dX4_dropFirstSweep_17 : decode cX4_dropFirstSweep 17 = .ok (.if_icmp .ge 44, 3) := by decide +kernel
theorem dX4_dropFirstSweep_20 : decode cX4_dropFirstSweep 20 = .ok (.iload_n 1, 1) := by decide +kernel
theorem dX4_dropFirstSweep_21 : decode cX4_dropFirstSweep 21 = .ok (.iconst 1, 1) := by decide +kernel
theorem dX4_dropFirstSweep_22 : decode cX4_dropFirstSweep 22 = .ok (.iadd, 1) := by decide +kernel
theorem dX4_dropFirstSweep_23 : decode cX4_dropFirstSweep 23 = .ok (.iconst 4, 1) := by decide +kernel
theorem dX4_dropFirstSweep_24 : decode cX4_dropFirstSweep 24 = .ok (.if_icmp .ge 37, 3) := by decide +kernel
theorem dX4_dropFirstSweep_27 : decode cX4_dropFirstSweep 27 = .ok (.aload_n 0, 1) := by decide +kernel
theorem dX4_dropFirstSweep_28 : decode cX4_dropFirstSweep 28 = .ok (.getfield 18, 3) := by decide +kernel
theorem dX4_dropFirstSweep_31 : decode cX4_dropFirstSweep 31 = .ok (.iload_n 1, 1) := by decide +kernel
theorem dX4_dropFirstSweep_32 : decode cX4_dropFirstSweep 32 = .ok (.aload_n 0, 1) := by decide +kernel
theorem dX4_dropFirstSweep_33 : decode cX4_dropFirstSweep 33 = .ok (.getfield 18, 3) := by decide +kernel
theorem dX4_dropFirstSweep_36 : decode cX4_dropFirstSweep 36 = .ok (.iload_n 1, 1) := by decide +kernel
theorem dX4_dropFirstSweep_37 : decode cX4_dropFirstSweep 37 = .ok (.iconst 1, 1) := by decide +kernel
theorem dX4_dropFirstSweep_38 : decode cX4_dropFirstSweep 38 = .ok (.iadd, 1) := by decide +kernel
theorem dX4_dropFirstSweep_39 : decode cX4_dropFirstSweep 39 = .ok (.iaload, 1) := by decide +kernel
theorem dX4_dropFirstSweep_40 : decode cX4_dropFirstSweep 40 = .ok (.iastore, 1) := by decide +kernel
theorem dX4_dropFirstSweep_41 : decode cX4_dropFirstSweep 41 = .ok (.aload_n 0, 1) := by decide +kernel
theorem dX4_dropFirstSweep_42 : decode cX4_dropFirstSweep 42 = .ok (.getfield 22, 3) := by decide +kernel
theorem dX4_dropFirstSweep_45 : decode cX4_dropFirstSweep 45 = .ok (.iload_n 1, 1) := by decide +kernel
theorem dX4_dropFirstSweep_46 : decode cX4_dropFirstSweep 46 = .ok (.aload_n 0, 1) := by decide +kernel
theorem dX4_dropFirstSweep_47 : decode cX4_dropFirstSweep 47 = .ok (.getfield 22, 3) := by decide +kernel
theorem dX4_dropFirstSweep_50 : decode cX4_dropFirstSweep 50 = .ok (.iload_n 1, 1) := by decide +kernel
theorem dX4_dropFirstSweep_51 : decode cX4_dropFirstSweep 51 = .ok (.iconst 1, 1) := by decide +kernel
theorem dX4_dropFirstSweep_52 : decode cX4_dropFirstSweep 52 = .ok (.iadd, 1) := by decide +kernel
theorem dX4_dropFirstSweep_53 : decode cX4_dropFirstSweep 53 = .ok (.iaload, 1) := by decide +kernel
theorem dX4_dropFirstSweep_54 : decode cX4_dropFirstSweep 54 = .ok (.iastore, 1) := by decide +kernel
theorem dX4_dropFirstSweep_55 : decode cX4_dropFirstSweep 55 = .ok (.iinc 1 1, 3) := by decide +kernel
theorem dX4_dropFirstSweep_58 : decode cX4_dropFirstSweep 58 = .ok (.goto (-46), 3) := by decide +kernel
theorem dX4_dropFirstSweep_61 : decode cX4_dropFirstSweep 61 = .ok (.return_, 1) := by decide +kernel
theorem dX4_image_0 : decode cX4_image 0 = .ok (.aload_n 0, 1) := by decide +kernel
theorem dX4_image_1 : decode cX4_image 1 = .ok (.getfield 9, 3) := by decide +kernel
theorem dX4_image_4 : decode cX4_image 4 = .ok (.ldc 60, 2) := by decide +kernel
theorem dX4_image_6 : decode cX4_image 6 = .ok (.if_icmp .gt 10, 3) := by decide +kernel
theorem dX4_image_9 : decode cX4_image 9 = .ok (.aload_n 0, 1) := by decide +kernel
theorem dX4_image_10 : decode cX4_image 10 = .ok (.getfield 9, 3) := by decide +kernel
theorem dX4_image_13 : decode cX4_image 13 = .ok (.goto 10, 3) := by decide +kernel
theorem dX4_image_16 : decode cX4_image 16 = .ok (.ldc 53, 2) := by decide +kernel
theorem dX4_image_18 : decode cX4_image 18 = .ok (.aload_n 0, 1) := by decide +kernel
theorem dX4_image_19 : decode cX4_image 19 = .ok (.getfield 9, 3) := by decide +kernel
theorem dX4_image_22 : decode cX4_image 22 = .ok (.isub, 1) := by decide +kernel
theorem dX4_image_23 : decode cX4_image 23 = .ok (.ireturn, 1) := by decide +kernel
theorem dX4_samplesOfARound_0 : decode cX4_samplesOfARound 0 = .ok (.aload_n 0, 1) := by decide +kernel
theorem dX4_samplesOfARound_1 : decode cX4_samplesOfARound 1 = .ok (.getfield 9, 3) := by decide +kernel
theorem dX4_samplesOfARound_4 : decode cX4_samplesOfARound 4 = .ok (.ifCond .ne 5, 3) := by decide +kernel
theorem dX4_samplesOfARound_7 : decode cX4_samplesOfARound 7 = .ok (.iconst 1, 1) := by decide +kernel
theorem dX4_samplesOfARound_8 : decode cX4_samplesOfARound 8 = .ok (.ireturn, 1) := by decide +kernel
theorem dX4_samplesOfARound_9 : decode cX4_samplesOfARound 9 = .ok (.aload_n 0, 1) := by decide +kernel
theorem dX4_samplesOfARound_10 : decode cX4_samplesOfARound 10 = .ok (.getfield 9, 3) := by decide +kernel
theorem dX4_samplesOfARound_13 : decode cX4_samplesOfARound 13 = .ok (.aload_n 0, 1) := by decide +kernel
theorem dX4_samplesOfARound_14 : decode cX4_samplesOfARound 14 = .ok (.getfield 9, 3) := by decide +kernel
theorem dX4_samplesOfARound_17 : decode cX4_samplesOfARound 17 = .ok (.ineg, 1) := by decide +kernel
theorem dX4_samplesOfARound_18 : decode cX4_samplesOfARound 18 = .ok (.iand, 1) := by decide +kernel
theorem dX4_samplesOfARound_19 : decode cX4_samplesOfARound 19 = .ok (.istore_n 1, 1) := by decide +kernel
theorem dX4_samplesOfARound_20 : decode cX4_samplesOfARound 20 = .ok (.ldc 53, 2) := by decide +kernel
theorem dX4_samplesOfARound_22 : decode cX4_samplesOfARound 22 = .ok (.iload_n 1, 1) := by decide +kernel
theorem dX4_samplesOfARound_23 : decode cX4_samplesOfARound 23 = .ok (.idiv, 1) := by decide +kernel
theorem dX4_samplesOfARound_24 : decode cX4_samplesOfARound 24 = .ok (.ireturn, 1) := by decide +kernel
theorem dX4_samplesOfSweeps_0 : decode cX4_samplesOfSweeps 0 = .ok (.iconst 0, 1) := by decide +kernel
theorem dX4_samplesOfSweeps_1 : decode cX4_samplesOfSweeps 1 = .ok (.istore_n 1, 1) := by decide +kernel
theorem dX4_samplesOfSweeps_2 : decode cX4_samplesOfSweeps 2 = .ok (.iconst 0, 1) := by decide +kernel
theorem dX4_samplesOfSweeps_3 : decode cX4_samplesOfSweeps 3 = .ok (.istore_n 2, 1) := by decide +kernel
theorem dX4_samplesOfSweeps_4 : decode cX4_samplesOfSweeps 4 = .ok (.iload_n 2, 1) := by decide +kernel
theorem dX4_samplesOfSweeps_5 : decode cX4_samplesOfSweeps 5 = .ok (.aload_n 0, 1) := by decide +kernel
theorem dX4_samplesOfSweeps_6 : decode cX4_samplesOfSweeps 6 = .ok (.getfield 35, 3) := by decide +kernel
theorem dX4_samplesOfSweeps_9 : decode cX4_samplesOfSweeps 9 = .ok (.if_icmp .ge 23, 3) := by decide +kernel
theorem dX4_samplesOfSweeps_12 : decode cX4_samplesOfSweeps 12 = .ok (.iload_n 2, 1) := by decide +kernel
theorem dX4_samplesOfSweeps_13 : decode cX4_samplesOfSweeps 13 = .ok (.iconst 4, 1) := by decide +kernel
theorem dX4_samplesOfSweeps_14 : decode cX4_samplesOfSweeps 14 = .ok (.if_icmp .ge 18, 3) := by decide +kernel
theorem dX4_samplesOfSweeps_17 : decode cX4_samplesOfSweeps 17 = .ok (.iload_n 1, 1) := by decide +kernel
theorem dX4_samplesOfSweeps_18 : decode cX4_samplesOfSweeps 18 = .ok (.aload_n 0, 1) := by decide +kernel
theorem dX4_samplesOfSweeps_19 : decode cX4_samplesOfSweeps 19 = .ok (.getfield 22, 3) := by decide +kernel
theorem dX4_samplesOfSweeps_22 : decode cX4_samplesOfSweeps 22 = .ok (.iload_n 2, 1) := by decide +kernel
theorem dX4_samplesOfSweeps_23 : decode cX4_samplesOfSweeps 23 = .ok (.iaload, 1) := by decide +kernel
theorem dX4_samplesOfSweeps_24 : decode cX4_samplesOfSweeps 24 = .ok (.iadd, 1) := by decide +kernel
theorem dX4_samplesOfSweeps_25 : decode cX4_samplesOfSweeps 25 = .ok (.istore_n 1, 1) := by decide +kernel
theorem dX4_samplesOfSweeps_26 : decode cX4_samplesOfSweeps 26 = .ok (.iinc 2 1, 3) := by decide +kernel
theorem dX4_samplesOfSweeps_29 : decode cX4_samplesOfSweeps 29 = .ok (.goto (-25), 3) := by decide +kernel
theorem dX4_samplesOfSweeps_32 : decode cX4_samplesOfSweeps 32 = .ok (.aload_n 0, 1) := by decide +kernel
theorem dX4_samplesOfSweeps_33 : decode cX4_samplesOfSweeps 33 = .ok (.getfield 35, 3) := by decide +kernel
theorem dX4_samplesOfSweeps_36 : decode cX4_samplesOfSweeps 36 = .ok (.ifCond .le 12, 3) := by decide +kernel
theorem dX4_samplesOfSweeps_39 : decode cX4_samplesOfSweeps 39 = .ok (.iload_n 1, 1) := by decide +kernel
theorem dX4_samplesOfSweeps_40 : decode cX4_samplesOfSweeps 40 = .ok (.aload_n 0, 1) := by decide +kernel
theorem dX4_samplesOfSweeps_41 : decode cX4_samplesOfSweeps 41 = .ok (.getfield 47, 3) := by decide +kernel
theorem dX4_samplesOfSweeps_44 : decode cX4_samplesOfSweeps 44 = .ok (.isub, 1) := by decide +kernel
theorem dX4_samplesOfSweeps_45 : decode cX4_samplesOfSweeps 45 = .ok (.goto 4, 3) := by decide +kernel
theorem dX4_samplesOfSweeps_48 : decode cX4_samplesOfSweeps 48 = .ok (.iconst 0, 1) := by decide +kernel
theorem dX4_samplesOfSweeps_49 : decode cX4_samplesOfSweeps 49 = .ok (.ireturn, 1) := by decide +kernel
theorem dX4_lastStep_0 : decode cX4_lastStep 0 = .ok (.aload_n 0, 1) := by decide +kernel
theorem dX4_lastStep_1 : decode cX4_lastStep 1 = .ok (.getfield 35, 3) := by decide +kernel
theorem dX4_lastStep_4 : decode cX4_lastStep 4 = .ok (.ifCond .le 25, 3) := by decide +kernel
theorem dX4_lastStep_7 : decode cX4_lastStep 7 = .ok (.aload_n 0, 1) := by decide +kernel
theorem dX4_lastStep_8 : decode cX4_lastStep 8 = .ok (.getfield 35, 3) := by decide +kernel
theorem dX4_lastStep_11 : decode cX4_lastStep 11 = .ok (.iconst 4, 1) := by decide +kernel
theorem dX4_lastStep_12 : decode cX4_lastStep 12 = .ok (.if_icmp .gt 17, 3) := by decide +kernel
theorem dX4_lastStep_15 : decode cX4_lastStep 15 = .ok (.aload_n 0, 1) := by decide +kernel
theorem dX4_lastStep_16 : decode cX4_lastStep 16 = .ok (.getfield 18, 3) := by decide +kernel
theorem dX4_lastStep_19 : decode cX4_lastStep 19 = .ok (.aload_n 0, 1) := by decide +kernel
theorem dX4_lastStep_20 : decode cX4_lastStep 20 = .ok (.getfield 35, 3) := by decide +kernel
theorem dX4_lastStep_23 : decode cX4_lastStep 23 = .ok (.iconst 1, 1) := by decide +kernel
theorem dX4_lastStep_24 : decode cX4_lastStep 24 = .ok (.isub, 1) := by decide +kernel
theorem dX4_lastStep_25 : decode cX4_lastStep 25 = .ok (.iaload, 1) := by decide +kernel
theorem dX4_lastStep_26 : decode cX4_lastStep 26 = .ok (.goto 7, 3) := by decide +kernel
theorem dX4_lastStep_29 : decode cX4_lastStep 29 = .ok (.aload_n 0, 1) := by decide +kernel
theorem dX4_lastStep_30 : decode cX4_lastStep 30 = .ok (.getfield 9, 3) := by decide +kernel
theorem dX4_lastStep_33 : decode cX4_lastStep 33 = .ok (.ireturn, 1) := by decide +kernel
set_option maxRecDepth 20000 in
theorem ggX4_goRound_X4_goOn : GoodIn wsX4_goRound wsX4_goOn := goodIn_r _ [10, 3, 4, 11, 1, 12, 13, 14, 9, 15, 16, 17, 18, 19, 20, 21, 22, 23, 24, 25, 26, 27, 28, 29, 30, 31, 32, 33, 34, 35, 36, 37] (by decide +kernel) (by decide +kernel)
set_option maxRecDepth 20000 in
theorem gX4_goRound_X4_goOn : GoodIn wsX4_goRound (wsV RX4 62 RX4 yX4_goOn wsX4_goOn) := goodIn_app (goodIn_of _ (by decide +kernel)) ggX4_goRound_X4_goOn
theorem dX4_goRound_0 : decode cX4_goRound 0 = .ok (.iconst 0, 1) := by decide +kernel
theorem dX4_goRound_1 : decode cX4_goRound 1 = .ok (.istore_n 1, 1) := by decide +kernel
theorem dX4_goRound_2 : decode cX4_goRound 2 = .ok (.aload_n 0, 1) := by decide +kernel
theorem dX4_goRound_3 : decode cX4_goRound 3 = .ok (.getfield 35, 3) := by decide +kernel
theorem dX4_goRound_6 : decode cX4_goRound 6 = .ok (.ifCond .le 34, 3) := by decide +kernel
theorem dX4_goRound_9 : decode cX4_goRound 9 = .ok (.iload_n 1, 1) := by decide +kernel
theorem dX4_goRound_10 : decode cX4_goRound 10 = .ok (.ldc 61, 2) := by decide +kernel
theorem dX4_goRound_12 : decode cX4_goRound 12 = .ok (.if_icmp .ge 28, 3) := by decide +kernel
theorem dX4_goRound_15 : decode cX4_goRound 15 = .ok (.aload_n 0, 1) := by decide +kernel
theorem dX4_goRound_16 : decode cX4_goRound 16 = .ok (.getfield 25, 3) := by decide +kernel
theorem dX4_goRound_19 : decode cX4_goRound 19 = .ok (.istore_n 2, 1) := by decide +kernel
theorem dX4_goRound_20 : decode cX4_goRound 20 = .ok (.aload_n 0, 1) := by decide +kernel
theorem dX4_goRound_21 : decode cX4_goRound 21 = .ok (.invokevirtual 62, 3) := by decide +kernel
theorem dX4_goRound_24 : decode cX4_goRound 24 = .ok (.iinc 1 1, 3) := by decide +kernel
theorem dX4_goRound_27 : decode cX4_goRound 27 = .ok (.aload_n 0, 1) := by decide +kernel
theorem dX4_goRound_28 : decode cX4_goRound 28 = .ok (.getfield 25, 3) := by decide +kernel
theorem dX4_goRound_31 : decode cX4_goRound 31 = .ok (.iload_n 2, 1) := by decide +kernel
theorem dX4_goRound_32 : decode cX4_goRound 32 = .ok (.if_icmp .ge 5, 3) := by decide +kernel
theorem dX4_goRound_35 : decode cX4_goRound 35 = .ok (.iload_n 1, 1) := by decide +kernel
theorem dX4_goRound_36 : decode cX4_goRound 36 = .ok (.ireturn, 1) := by decide +kernel
theorem dX4_goRound_37 : decode cX4_goRound 37 = .ok (.goto (-35), 3) := by decide +kernel
theorem dX4_goRound_40 : decode cX4_goRound 40 = .ok (.aload_n 0, 1) := by decide +kernel
theorem dX4_goRound_41 : decode cX4_goRound 41 = .ok (.getfield 9, 3) := by decide +kernel
theorem dX4_goRound_44 : decode cX4_goRound 44 = .ok (.ifCond .ne 6, 3) := by decide +kernel
theorem dX4_goRound_47 : decode cX4_goRound 47 = .ok (.bipush (-6), 2) := by decide +kernel
theorem dX4_goRound_49 : decode cX4_goRound 49 = .ok (.ireturn, 1) := by decide +kernel
theorem dX4_goRound_50 : decode cX4_goRound 50 = .ok (.iload_n 1, 1) := by decide +kernel
theorem dX4_goRound_51 : decode cX4_goRound 51 = .ok (.ldc 65, 2) := by decide +kernel
theorem dX4_goRound_53 : decode cX4_goRound 53 = .ok (.aload_n 0, 1) := by decide +kernel
theorem dX4_goRound_54 : decode cX4_goRound 54 = .ok (.getfield 25, 3) := by decide +kernel
theorem dX4_goRound_57 : decode cX4_goRound 57 = .ok (.isub, 1) := by decide +kernel
theorem dX4_goRound_58 : decode cX4_goRound 58 = .ok (.aload_n 0, 1) := by decide +kernel
theorem dX4_goRound_59 : decode cX4_goRound 59 = .ok (.getfield 9, 3) := by decide +kernel
theorem dX4_goRound_62 : decode cX4_goRound 62 = .ok (.idiv, 1) := by decide +kernel
theorem dX4_goRound_63 : decode cX4_goRound 63 = .ok (.iconst 1, 1) := by decide +kernel
theorem dX4_goRound_64 : decode cX4_goRound 64 = .ok (.iadd, 1) := by decide +kernel
theorem dX4_goRound_65 : decode cX4_goRound 65 = .ok (.iadd, 1) := by decide +kernel
theorem dX4_goRound_66 : decode cX4_goRound 66 = .ok (.istore_n 1, 1) := by decide +kernel
theorem dX4_goRound_67 : decode cX4_goRound 67 = .ok (.iload_n 1, 1) := by decide +kernel
theorem dX4_goRound_68 : decode cX4_goRound 68 = .ok (.ldc 61, 2) := by decide +kernel
theorem dX4_goRound_70 : decode cX4_goRound 70 = .ok (.if_icmp .gt 7, 3) := by decide +kernel
theorem dX4_goRound_73 : decode cX4_goRound 73 = .ok (.iload_n 1, 1) := by decide +kernel
theorem dX4_goRound_74 : decode cX4_goRound 74 = .ok (.goto 5, 3) := by decide +kernel
theorem dX4_goRound_77 : decode cX4_goRound 77 = .ok (.bipush (-6), 2) := by decide +kernel
theorem dX4_goRound_79 : decode cX4_goRound 79 = .ok (.ireturn, 1) := by decide +kernel
set_option maxRecDepth 20000 in
theorem ggX5_init_X3_init : GoodIn wsX5_init wsX3_init := goodIn_r _ [23, 24, 2, 3, 25, 26, 27, 28, 29, 30, 31, 32, 33, 34, 35, 36, 37, 38, 39, 40, 62, 63, 64, 65, 66, 67, 68, 69, 87, 88, 89, 90, 91, 92, 93, 94, 95, 96] (by decide +kernel) (by decide +kernel)
set_option maxRecDepth 20000 in
theorem gX5_init_X3_init : GoodIn wsX5_init (wsX3_init) := ggX5_init_X3_init
set_option maxRecDepth 20000 in
theorem ggX5_init_X0_init : GoodIn wsX5_init wsX0_init := goodIn_r _ [43, 44, 2, 3, 45, 46, 5, 6, 47, 22, 23, 24, 25, 26, 27, 28, 29, 30, 31, 32, 33, 34, 35, 36, 37, 38, 39, 40, 75, 76, 77, 62, 63, 64, 65, 66, 67, 68, 69, 87, 88, 89, 90, 91, 92, 93, 94, 95, 96] (by decide +kernel) (by decide +kernel)
set_option maxRecDepth 20000 in
theorem gX5_init_X0_init : GoodIn wsX5_init (wsX0_init) := ggX5_init_X0_init
set_option maxRecDepth 20000 in
theorem ggX5_init_X2_init : GoodIn wsX5_init wsX2_init := goodIn_r _ [50, 51, 2, 3, 52, 53, 54, 55, 5, 6, 56, 22, 23, 24, 25, 26, 27, 28, 29, 30, 31, 32, 33, 34, 35, 36, 37, 38, 39, 40, 78, 79, 62, 63, 64, 65, 66, 67, 68, 69, 87, 88, 89, 90, 91, 92, 93, 94, 95, 96] (by decide +kernel) (by decide +kernel)
set_option maxRecDepth 20000 in
theorem gX5_init_X2_init : GoodIn wsX5_init (wsX2_init) := ggX5_init_X2_init
set_option maxRecDepth 20000 in
theorem ggX5_init_X1_init : GoodIn wsX5_init wsX1_init := goodIn_r _ [58, 59, 2, 3, 60, 61, 80, 81, 82, 83, 84, 85, 86] (by decide +kernel) (by decide +kernel)
set_option maxRecDepth 20000 in
theorem gX5_init_X1_init_n35 : GoodIn wsX5_init (wsX1_init) := ggX5_init_X1_init
theorem dX5_init_0 : decode cX5_init 0 = .ok (.aload_n 0, 1) := by decide +kernel
theorem dX5_init_1 : decode cX5_init 1 = .ok (.invokespecial 1, 3) := by decide +kernel
theorem dX5_init_4 : decode cX5_init 4 = .ok (.aload_n 0, 1) := by decide +kernel
theorem dX5_init_5 : decode cX5_init 5 = .ok (.new 7, 3) := by decide +kernel
theorem dX5_init_8 : decode cX5_init 8 = .ok (.dup, 1) := by decide +kernel
theorem dX5_init_9 : decode cX5_init 9 = .ok (.invokespecial 9, 3) := by decide +kernel
theorem dX5_init_12 : decode cX5_init 12 = .ok (.putfield 10, 3) := by decide +kernel
theorem dX5_init_15 : decode cX5_init 15 = .ok (.aload_n 0, 1) := by decide +kernel
theorem dX5_init_16 : decode cX5_init 16 = .ok (.new 7, 3) := by decide +kernel
theorem dX5_init_19 : decode cX5_init 19 = .ok (.dup, 1) := by decide +kernel
theorem dX5_init_20 : decode cX5_init 20 = .ok (.invokespecial 9, 3) := by decide +kernel
theorem dX5_init_23 : decode cX5_init 23 = .ok (.putfield 16, 3) := by decide +kernel
theorem dX5_init_26 : decode cX5_init 26 = .ok (.aload_n 0, 1) := by decide +kernel
theorem dX5_init_27 : decode cX5_init 27 = .ok (.new 19, 3) := by decide +kernel
theorem dX5_init_30 : decode cX5_init 30 = .ok (.dup, 1) := by decide +kernel
theorem dX5_init_31 : decode cX5_init 31 = .ok (.invokespecial 21, 3) := by decide +kernel
theorem dX5_init_34 : decode cX5_init 34 = .ok (.putfield 22, 3) := by decide +kernel
theorem dX5_init_37 : decode cX5_init 37 = .ok (.aload_n 0, 1) := by decide +kernel
theorem dX5_init_38 : decode cX5_init 38 = .ok (.new 26, 3) := by decide +kernel
theorem dX5_init_41 : decode cX5_init 41 = .ok (.dup, 1) := by decide +kernel
theorem dX5_init_42 : decode cX5_init 42 = .ok (.invokespecial 28, 3) := by decide +kernel
theorem dX5_init_45 : decode cX5_init 45 = .ok (.putfield 29, 3) := by decide +kernel
theorem dX5_init_48 : decode cX5_init 48 = .ok (.aload_n 0, 1) := by decide +kernel
theorem dX5_init_49 : decode cX5_init 49 = .ok (.new 33, 3) := by decide +kernel
theorem dX5_init_52 : decode cX5_init 52 = .ok (.dup, 1) := by decide +kernel
theorem dX5_init_53 : decode cX5_init 53 = .ok (.invokespecial 35, 3) := by decide +kernel
theorem dX5_init_56 : decode cX5_init 56 = .ok (.putfield 36, 3) := by decide +kernel
theorem dX5_init_59 : decode cX5_init 59 = .ok (.return_, 1) := by decide +kernel
set_option maxRecDepth 20000 in
theorem ggX5_clip_X5_isOutside : GoodIn wsX5_clip wsX5_isOutside := goodIn_r _ [7] (by decide +kernel) (by decide +kernel)
set_option maxRecDepth 20000 in
theorem gX5_clip_X5_isOutside : GoodIn wsX5_clip (va_wsS RX5 40 yX5_isOutside wsX5_isOutside) := goodIn_app (goodIn_of _ (by decide +kernel)) ggX5_clip_X5_isOutside
set_option maxRecDepth 20000 in
theorem ggX5_clip_X0_keep : GoodIn wsX5_clip wsX0_keep := goodIn_r _ [12, 13, 14, 15, 16, 17, 18, 19, 20, 21, 22, 23, 24, 25, 26, 27, 28, 29, 30, 31, 32, 33, 34, 35, 36, 37, 38, 39, 40, 41, 42, 43, 44, 45, 46, 47, 48, 49, 50, 51, 52, 53, 54, 55, 56, 70, 71, 72, 62, 63, 64, 65, 66, 67, 68, 69, 73, 74, 75, 76, 77, 78, 79, 80, 81, 82] (by decide +kernel) (by decide +kernel)
set_option maxRecDepth 20000 in
theorem gX5_clip_X0_keep : GoodIn wsX5_clip (wsV RX5 44 RX0 yX0_keep wsX0_keep) := goodIn_app (goodIn_of _ (by decide +kernel)) ggX5_clip_X0_keep
theorem dX5_clip_0 : decode cX5_clip 0 = .ok (.iload_n 1, 1) := by decide +kernel
theorem dX5_clip_1 : decode cX5_clip 1 = .ok (.iconst 1, 1) := by decide +kernel
theorem dX5_clip_2 : decode cX5_clip 2 = .ok (.sipush 960, 3) := by decide +kernel
theorem dX5_clip_5 : decode cX5_clip 5 = .ok (.invokestatic 40, 3) := by decide +kernel
theorem dX5_clip_8 : decode cX5_clip 8 = .ok (.ifCond .eq 6, 3) := by decide +kernel
theorem dX5_clip_11 : decode cX5_clip 11 = .ok (.bipush (-2), 2) := by decide +kernel
theorem dX5_clip_13 : decode cX5_clip 13 = .ok (.ireturn, 1) := by decide +kernel
theorem dX5_clip_14 : decode cX5_clip 14 = .ok (.aload_n 0, 1) := by decide +kernel
theorem dX5_clip_15 : decode cX5_clip 15 = .ok (.getfield 22, 3) := by decide +kernel
theorem dX5_clip_18 : decode cX5_clip 18 = .ok (.aload_n 0, 1) := by decide +kernel
theorem dX5_clip_19 : decode cX5_clip 19 = .ok (.getfield 10, 3) := by decide +kernel
theorem dX5_clip_22 : decode cX5_clip 22 = .ok (.invokevirtual 44, 3) := by decide +kernel
theorem dX5_clip_25 : decode cX5_clip 25 = .ok (.aload_n 0, 1) := by decide +kernel
theorem dX5_clip_26 : decode cX5_clip 26 = .ok (.getfield 10, 3) := by decide +kernel
theorem dX5_clip_29 : decode cX5_clip 29 = .ok (.getfield 48, 3) := by decide +kernel
theorem dX5_clip_32 : decode cX5_clip 32 = .ok (.istore_n 2, 1) := by decide +kernel
theorem dX5_clip_33 : decode cX5_clip 33 = .ok (.aload_n 0, 1) := by decide +kernel
theorem dX5_clip_34 : decode cX5_clip 34 = .ok (.getfield 10, 3) := by decide +kernel
theorem dX5_clip_37 : decode cX5_clip 37 = .ok (.iload_n 1, 1) := by decide +kernel
theorem dX5_clip_38 : decode cX5_clip 38 = .ok (.putfield 48, 3) := by decide +kernel
theorem dX5_clip_41 : decode cX5_clip 41 = .ok (.iload_n 2, 1) := by decide +kernel
theorem dX5_clip_42 : decode cX5_clip 42 = .ok (.ireturn, 1) := by decide +kernel
set_option maxRecDepth 20000 in
theorem ggX5_fill_X5_isNoTable : GoodIn wsX5_fill wsX5_isNoTable := goodIn_r _ [7, 8, 9, 6, 10] (by decide +kernel) (by decide +kernel)
set_option maxRecDepth 20000 in
theorem gX5_fill_X5_isNoTable : GoodIn wsX5_fill (va_wsS RX5 52 yX5_isNoTable wsX5_isNoTable) := goodIn_app (goodIn_of _ (by decide +kernel)) ggX5_fill_X5_isNoTable
set_option maxRecDepth 20000 in
theorem ggX5_fill_X5_isNoPlace : GoodIn wsX5_fill wsX5_isNoPlace := goodIn_r _ [13, 8, 9, 6, 10] (by decide +kernel) (by decide +kernel)
set_option maxRecDepth 20000 in
theorem gX5_fill_X5_isNoPlace : GoodIn wsX5_fill (va_wsS RX5 56 yX5_isNoPlace wsX5_isNoPlace) := goodIn_app (goodIn_of _ (by decide +kernel)) ggX5_fill_X5_isNoPlace
set_option maxRecDepth 20000 in
theorem ggX5_fill_X5_isOutside : GoodIn wsX5_fill wsX5_isOutside := goodIn_r _ [10] (by decide +kernel) (by decide +kernel)
set_option maxRecDepth 20000 in
theorem gX5_fill_X5_isOutside : GoodIn wsX5_fill (va_wsS RX5 40 yX5_isOutside wsX5_isOutside) := goodIn_app (goodIn_of _ (by decide +kernel)) ggX5_fill_X5_isOutside
set_option maxRecDepth 20000 in
theorem ggX5_fill_X0_keep : GoodIn wsX5_fill wsX0_keep := goodIn_r _ [18, 19, 20, 21, 22, 23, 24, 25, 26, 27, 28, 29, 30, 31, 32, 33, 34, 35, 36, 37, 38, 39, 40, 41, 42, 43, 44, 45, 46, 47, 48, 49, 50, 51, 52, 53, 54, 55, 56, 57, 58, 59, 60, 61, 62, 76, 77, 78, 68, 69, 70, 71, 72, 73, 74, 75, 79, 80, 81, 82, 83, 84, 85, 86, 87, 88] (by decide +kernel) (by decide +kernel)
set_option maxRecDepth 20000 in
theorem gX5_fill_X0_keep : GoodIn wsX5_fill (wsV RX5 44 RX0 yX0_keep wsX0_keep) := goodIn_app (goodIn_of _ (by decide +kernel)) ggX5_fill_X0_keep
theorem dX5_fill_0 : decode cX5_fill 0 = .ok (.iload_n 1, 1) := by decide +kernel
theorem dX5_fill_1 : decode cX5_fill 1 = .ok (.invokestatic 52, 3) := by decide +kernel
theorem dX5_fill_4 : decode cX5_fill 4 = .ok (.ifCond .ne 10, 3) := by decide +kernel
theorem dX5_fill_7 : decode cX5_fill 7 = .ok (.iload_n 2, 1) := by decide +kernel
theorem dX5_fill_8 : decode cX5_fill 8 = .ok (.invokestatic 56, 3) := by decide +kernel
theorem dX5_fill_11 : decode cX5_fill 11 = .ok (.ifCond .eq 5, 3) := by decide +kernel
theorem dX5_fill_14 : decode cX5_fill 14 = .ok (.iconst (-1), 1) := by decide +kernel
theorem dX5_fill_15 : decode cX5_fill 15 = .ok (.ireturn, 1) := by decide +kernel
theorem dX5_fill_16 : decode cX5_fill 16 = .ok (.iload_n 3, 1) := by decide +kernel
theorem dX5_fill_17 : decode cX5_fill 17 = .ok (.iconst 0, 1) := by decide +kernel
theorem dX5_fill_18 : decode cX5_fill 18 = .ok (.bipush 15, 2) := by decide +kernel
theorem dX5_fill_20 : decode cX5_fill 20 = .ok (.invokestatic 40, 3) := by decide +kernel
theorem dX5_fill_23 : decode cX5_fill 23 = .ok (.ifCond .eq 6, 3) := by decide +kernel
theorem dX5_fill_26 : decode cX5_fill 26 = .ok (.bipush (-2), 2) := by decide +kernel
theorem dX5_fill_28 : decode cX5_fill 28 = .ok (.ireturn, 1) := by decide +kernel
theorem dX5_fill_29 : decode cX5_fill 29 = .ok (.aload_n 0, 1) := by decide +kernel
theorem dX5_fill_30 : decode cX5_fill 30 = .ok (.getfield 22, 3) := by decide +kernel
theorem dX5_fill_33 : decode cX5_fill 33 = .ok (.aload_n 0, 1) := by decide +kernel
theorem dX5_fill_34 : decode cX5_fill 34 = .ok (.getfield 10, 3) := by decide +kernel
theorem dX5_fill_37 : decode cX5_fill 37 = .ok (.invokevirtual 44, 3) := by decide +kernel
theorem dX5_fill_40 : decode cX5_fill 40 = .ok (.iload_n 1, 1) := by decide +kernel
theorem dX5_fill_41 : decode cX5_fill 41 = .ok (.bipush 16, 2) := by decide +kernel
theorem dX5_fill_43 : decode cX5_fill 43 = .ok (.imul, 1) := by decide +kernel
theorem dX5_fill_44 : decode cX5_fill 44 = .ok (.iload_n 2, 1) := by decide +kernel
theorem dX5_fill_45 : decode cX5_fill 45 = .ok (.iadd, 1) := by decide +kernel
theorem dX5_fill_46 : decode cX5_fill 46 = .ok (.istore 4, 2) := by decide +kernel
theorem dX5_fill_48 : decode cX5_fill 48 = .ok (.aload_n 0, 1) := by decide +kernel
theorem dX5_fill_49 : decode cX5_fill 49 = .ok (.getfield 10, 3) := by decide +kernel
theorem dX5_fill_52 : decode cX5_fill 52 = .ok (.getfield 59, 3) := by decide +kernel
theorem dX5_fill_55 : decode cX5_fill 55 = .ok (.iload 4, 2) := by decide +kernel
theorem dX5_fill_57 : decode cX5_fill 57 = .ok (.iaload, 1) := by decide +kernel
theorem dX5_fill_58 : decode cX5_fill 58 = .ok (.istore 5, 2) := by decide +kernel
theorem dX5_fill_60 : decode cX5_fill 60 = .ok (.aload_n 0, 1) := by decide +kernel
theorem dX5_fill_61 : decode cX5_fill 61 = .ok (.getfield 10, 3) := by decide +kernel
theorem dX5_fill_64 : decode cX5_fill 64 = .ok (.getfield 59, 3) := by decide +kernel
theorem dX5_fill_67 : decode cX5_fill 67 = .ok (.iload 4, 2) := by decide +kernel
theorem dX5_fill_69 : decode cX5_fill 69 = .ok (.iload_n 3, 1) := by decide +kernel
theorem dX5_fill_70 : decode cX5_fill 70 = .ok (.iastore, 1) := by decide +kernel
theorem dX5_fill_71 : decode cX5_fill 71 = .ok (.iload 5, 2) := by decide +kernel
theorem dX5_fill_73 : decode cX5_fill 73 = .ok (.ireturn, 1) := by decide +kernel
set_option maxRecDepth 20000 in
theorem ggX5_step_X5_isNoWheel : GoodIn wsX5_step wsX5_isNoWheel := goodIn_r _ [9, 10, 11, 8, 12] (by decide +kernel) (by decide +kernel)
set_option maxRecDepth 20000 in
theorem gX5_step_X5_isNoWheel : GoodIn wsX5_step (va_wsS RX5 63 yX5_isNoWheel wsX5_isNoWheel) := goodIn_app (goodIn_of _ (by decide +kernel)) ggX5_step_X5_isNoWheel
set_option maxRecDepth 20000 in
theorem ggX5_step_X5_isOutside : GoodIn wsX5_step wsX5_isOutside := goodIn_r _ [12] (by decide +kernel) (by decide +kernel)
set_option maxRecDepth 20000 in
theorem gX5_step_X5_isOutside : GoodIn wsX5_step (va_wsS RX5 40 yX5_isOutside wsX5_isOutside) := goodIn_app (goodIn_of _ (by decide +kernel)) ggX5_step_X5_isOutside
set_option maxRecDepth 20000 in
theorem ggX5_step_X0_keep : GoodIn wsX5_step wsX0_keep := goodIn_r _ [17, 18, 19, 20, 21, 22, 23, 24, 25, 26, 27, 28, 29, 30, 31, 32, 33, 34, 35, 36, 37, 38, 39, 40, 41, 42, 43, 44, 45, 46, 47, 48, 49, 50, 51, 52, 53, 54, 55, 56, 57, 58, 59, 60, 61, 89, 90, 91, 71, 72, 73, 74, 75, 76, 77, 78, 79, 80, 81, 82, 83, 84, 85, 86, 87, 88] (by decide +kernel) (by decide +kernel)
set_option maxRecDepth 20000 in
theorem gX5_step_X0_keep : GoodIn wsX5_step (wsV RX5 44 RX0 yX0_keep wsX0_keep) := goodIn_app (goodIn_of _ (by decide +kernel)) ggX5_step_X0_keep
set_option maxRecDepth 20000 in
theorem ggX5_step_X4_changeStep : GoodIn wsX5_step wsX4_changeStep := goodIn_r _ [65, 52, 56, 79, 80, 81, 82, 83, 84, 85, 86, 87, 88] (by decide +kernel) (by decide +kernel)
set_option maxRecDepth 20000 in
theorem gX5_step_X4_changeStep : GoodIn wsX5_step (wsV RX5 76 RX4 yX4_changeStep wsX4_changeStep) := goodIn_app (goodIn_of _ (by decide +kernel)) ggX5_step_X4_changeStep
theorem dX5_step_0 : decode cX5_step 0 = .ok (.iload_n 1, 1) := by decide +kernel
theorem dX5_step_1 : decode cX5_step 1 = .ok (.invokestatic 63, 3) := by decide +kernel
theorem dX5_step_4 : decode cX5_step 4 = .ok (.ifCond .eq 5, 3) := by decide +kernel
theorem dX5_step_7 : decode cX5_step 7 = .ok (.iconst (-1), 1) := by decide +kernel
theorem dX5_step_8 : decode cX5_step 8 = .ok (.ireturn, 1) := by decide +kernel
theorem dX5_step_9 : decode cX5_step 9 = .ok (.iload_n 2, 1) := by decide +kernel
theorem dX5_step_10 : decode cX5_step 10 = .ok (.iconst 0, 1) := by decide +kernel
theorem dX5_step_11 : decode cX5_step 11 = .ok (.ldc 66, 2) := by decide +kernel
theorem dX5_step_13 : decode cX5_step 13 = .ok (.invokestatic 40, 3) := by decide +kernel
theorem dX5_step_16 : decode cX5_step 16 = .ok (.ifCond .eq 6, 3) := by decide +kernel
theorem dX5_step_19 : decode cX5_step 19 = .ok (.bipush (-2), 2) := by decide +kernel
theorem dX5_step_21 : decode cX5_step 21 = .ok (.ireturn, 1) := by decide +kernel
theorem dX5_step_22 : decode cX5_step 22 = .ok (.aload_n 0, 1) := by decide +kernel
theorem dX5_step_23 : decode cX5_step 23 = .ok (.getfield 22, 3) := by decide +kernel
theorem dX5_step_26 : decode cX5_step 26 = .ok (.aload_n 0, 1) := by decide +kernel
theorem dX5_step_27 : decode cX5_step 27 = .ok (.getfield 10, 3) := by decide +kernel
theorem dX5_step_30 : decode cX5_step 30 = .ok (.invokevirtual 44, 3) := by decide +kernel
theorem dX5_step_33 : decode cX5_step 33 = .ok (.aload_n 0, 1) := by decide +kernel
theorem dX5_step_34 : decode cX5_step 34 = .ok (.getfield 10, 3) := by decide +kernel
theorem dX5_step_37 : decode cX5_step 37 = .ok (.getfield 67, 3) := by decide +kernel
theorem dX5_step_40 : decode cX5_step 40 = .ok (.iload_n 1, 1) := by decide +kernel
theorem dX5_step_41 : decode cX5_step 41 = .ok (.aaload, 1) := by decide +kernel
theorem dX5_step_42 : decode cX5_step 42 = .ok (.getfield 71, 3) := by decide +kernel
theorem dX5_step_45 : decode cX5_step 45 = .ok (.istore_n 3, 1) := by decide +kernel
theorem dX5_step_46 : decode cX5_step 46 = .ok (.aload_n 0, 1) := by decide +kernel
theorem dX5_step_47 : decode cX5_step 47 = .ok (.getfield 10, 3) := by decide +kernel
theorem dX5_step_50 : decode cX5_step 50 = .ok (.getfield 67, 3) := by decide +kernel
theorem dX5_step_53 : decode cX5_step 53 = .ok (.iload_n 1, 1) := by decide +kernel
theorem dX5_step_54 : decode cX5_step 54 = .ok (.aaload, 1) := by decide +kernel
theorem dX5_step_55 : decode cX5_step 55 = .ok (.iload_n 2, 1) := by decide +kernel
theorem dX5_step_56 : decode cX5_step 56 = .ok (.invokevirtual 76, 3) := by decide +kernel
theorem dX5_step_59 : decode cX5_step 59 = .ok (.iload_n 3, 1) := by decide +kernel
theorem dX5_step_60 : decode cX5_step 60 = .ok (.ireturn, 1) := by decide +kernel
set_option maxRecDepth 20000 in
theorem ggX5_table_X5_isNoWheel : GoodIn wsX5_table wsX5_isNoWheel := goodIn_r _ [8, 9, 10, 7, 11] (by decide +kernel) (by decide +kernel)
set_option maxRecDepth 20000 in
theorem gX5_table_X5_isNoWheel : GoodIn wsX5_table (va_wsS RX5 63 yX5_isNoWheel wsX5_isNoWheel) := goodIn_app (goodIn_of _ (by decide +kernel)) ggX5_table_X5_isNoWheel
set_option maxRecDepth 20000 in
theorem ggX5_table_X5_isNoTable : GoodIn wsX5_table wsX5_isNoTable := goodIn_r _ [14, 9, 10, 7, 11] (by decide +kernel) (by decide +kernel)
set_option maxRecDepth 20000 in
theorem gX5_table_X5_isNoTable : GoodIn wsX5_table (va_wsS RX5 52 yX5_isNoTable wsX5_isNoTable) := goodIn_app (goodIn_of _ (by decide +kernel)) ggX5_table_X5_isNoTable
set_option maxRecDepth 20000 in
theorem ggX5_table_X0_keep : GoodIn wsX5_table wsX0_keep := goodIn_r _ [19, 20, 21, 22, 23, 24, 25, 26, 27, 28, 29, 30, 31, 32, 33, 34, 35, 36, 37, 38, 39, 40, 41, 42, 43, 44, 45, 46, 47, 48, 49, 50, 51, 52, 53, 54, 55, 56, 57, 58, 59, 60, 61, 62, 63, 87, 88, 89, 69, 70, 71, 72, 73, 74, 75, 76, 77, 78, 79, 80, 81, 82, 83, 84, 85, 86] (by decide +kernel) (by decide +kernel)
set_option maxRecDepth 20000 in
theorem gX5_table_X0_keep : GoodIn wsX5_table (wsV RX5 44 RX0 yX0_keep wsX0_keep) := goodIn_app (goodIn_of _ (by decide +kernel)) ggX5_table_X0_keep
theorem dX5_table_0 : decode cX5_table 0 = .ok (.iload_n 1, 1) := by decide +kernel
theorem dX5_table_1 : decode cX5_table 1 = .ok (.invokestatic 63, 3) := by decide +kernel
theorem dX5_table_4 : decode cX5_table 4 = .ok (.ifCond .ne 10, 3) := by decide +kernel
theorem dX5_table_7 : decode cX5_table 7 = .ok (.iload_n 2, 1) := by decide +kernel
theorem dX5_table_8 : decode cX5_table 8 = .ok (.invokestatic 52, 3) := by decide +kernel
theorem dX5_table_11 : decode cX5_table 11 = .ok (.ifCond .eq 5, 3) := by decide +kernel
theorem dX5_table_14 : decode cX5_table 14 = .ok (.iconst (-1), 1) := by decide +kernel
theorem dX5_table_15 : decode cX5_table 15 = .ok (.ireturn, 1) := by decide +kernel
theorem dX5_table_16 : decode cX5_table 16 = .ok (.aload_n 0, 1) := by decide +kernel
theorem dX5_table_17 : decode cX5_table 17 = .ok (.getfield 22, 3) := by decide +kernel
theorem dX5_table_20 : decode cX5_table 20 = .ok (.aload_n 0, 1) := by decide +kernel
theorem dX5_table_21 : decode cX5_table 21 = .ok (.getfield 10, 3) := by decide +kernel
theorem dX5_table_24 : decode cX5_table 24 = .ok (.invokevirtual 44, 3) := by decide +kernel
theorem dX5_table_27 : decode cX5_table 27 = .ok (.aload_n 0, 1) := by decide +kernel
theorem dX5_table_28 : decode cX5_table 28 = .ok (.getfield 10, 3) := by decide +kernel
theorem dX5_table_31 : decode cX5_table 31 = .ok (.getfield 67, 3) := by decide +kernel
theorem dX5_table_34 : decode cX5_table 34 = .ok (.iload_n 1, 1) := by decide +kernel
theorem dX5_table_35 : decode cX5_table 35 = .ok (.aaload, 1) := by decide +kernel
theorem dX5_table_36 : decode cX5_table 36 = .ok (.getfield 80, 3) := by decide +kernel
theorem dX5_table_39 : decode cX5_table 39 = .ok (.istore_n 3, 1) := by decide +kernel
theorem dX5_table_40 : decode cX5_table 40 = .ok (.aload_n 0, 1) := by decide +kernel
theorem dX5_table_41 : decode cX5_table 41 = .ok (.getfield 10, 3) := by decide +kernel
theorem dX5_table_44 : decode cX5_table 44 = .ok (.getfield 67, 3) := by decide +kernel
theorem dX5_table_47 : decode cX5_table 47 = .ok (.iload_n 1, 1) := by decide +kernel
theorem dX5_table_48 : decode cX5_table 48 = .ok (.aaload, 1) := by decide +kernel
theorem dX5_table_49 : decode cX5_table 49 = .ok (.iload_n 2, 1) := by decide +kernel
theorem dX5_table_50 : decode cX5_table 50 = .ok (.putfield 80, 3) := by decide +kernel
theorem dX5_table_53 : decode cX5_table 53 = .ok (.iload_n 3, 1) := by decide +kernel
theorem dX5_table_54 : decode cX5_table 54 = .ok (.ireturn, 1) := by decide +kernel
set_option maxRecDepth 20000 in
theorem ggX5_volume_X5_isNoWheel : GoodIn wsX5_volume wsX5_isNoWheel := goodIn_r _ [8, 9, 10, 7, 11] (by decide +kernel) (by decide +kernel)
set_option maxRecDepth 20000 in
theorem gX5_volume_X5_isNoWheel : GoodIn wsX5_volume (va_wsS RX5 63 yX5_isNoWheel wsX5_isNoWheel) := goodIn_app (goodIn_of _ (by decide +kernel)) ggX5_volume_X5_isNoWheel
set_option maxRecDepth 20000 in
theorem ggX5_volume_X5_isOutside : GoodIn wsX5_volume wsX5_isOutside := goodIn_r _ [11] (by decide +kernel) (by decide +kernel)
set_option maxRecDepth 20000 in
theorem gX5_volume_X5_isOutside : GoodIn wsX5_volume (va_wsS RX5 40 yX5_isOutside wsX5_isOutside) := goodIn_app (goodIn_of _ (by decide +kernel)) ggX5_volume_X5_isOutside
set_option maxRecDepth 20000 in
theorem ggX5_volume_X0_keep : GoodIn wsX5_volume wsX0_keep := goodIn_r _ [16, 17, 18, 19, 20, 21, 22, 23, 24, 25, 26, 27, 28, 29, 30, 31, 32, 33, 34, 35, 36, 37, 38, 39, 40, 41, 42, 43, 44, 45, 46, 47, 48, 49, 50, 51, 52, 53, 54, 55, 56, 57, 58, 59, 60, 84, 85, 86, 66, 67, 68, 69, 70, 71, 72, 73, 74, 75, 76, 77, 78, 79, 80, 81, 82, 83] (by decide +kernel) (by decide +kernel)
set_option maxRecDepth 20000 in
theorem gX5_volume_X0_keep : GoodIn wsX5_volume (wsV RX5 44 RX0 yX0_keep wsX0_keep) := goodIn_app (goodIn_of _ (by decide +kernel)) ggX5_volume_X0_keep
theorem dX5_volume_0 : decode cX5_volume 0 = .ok (.iload_n 1, 1) := by decide +kernel
theorem dX5_volume_1 : decode cX5_volume 1 = .ok (.invokestatic 63, 3) := by decide +kernel
theorem dX5_volume_4 : decode cX5_volume 4 = .ok (.ifCond .eq 5, 3) := by decide +kernel
theorem dX5_volume_7 : decode cX5_volume 7 = .ok (.iconst (-1), 1) := by decide +kernel
theorem dX5_volume_8 : decode cX5_volume 8 = .ok (.ireturn, 1) := by decide +kernel
theorem dX5_volume_9 : decode cX5_volume 9 = .ok (.iload_n 2, 1) := by decide +kernel
theorem dX5_volume_10 : decode cX5_volume 10 = .ok (.iconst 0, 1) := by decide +kernel
theorem dX5_volume_11 : decode cX5_volume 11 = .ok (.bipush 16, 2) := by decide +kernel
theorem dX5_volume_13 : decode cX5_volume 13 = .ok (.invokestatic 40, 3) := by decide +kernel
theorem dX5_volume_16 : decode cX5_volume 16 = .ok (.ifCond .eq 6, 3) := by decide +kernel
theorem dX5_volume_19 : decode cX5_volume 19 = .ok (.bipush (-2), 2) := by decide +kernel
theorem dX5_volume_21 : decode cX5_volume 21 = .ok (.ireturn, 1) := by decide +kernel
theorem dX5_volume_22 : decode cX5_volume 22 = .ok (.aload_n 0, 1) := by decide +kernel
theorem dX5_volume_23 : decode cX5_volume 23 = .ok (.getfield 22, 3) := by decide +kernel
theorem dX5_volume_26 : decode cX5_volume 26 = .ok (.aload_n 0, 1) := by decide +kernel
theorem dX5_volume_27 : decode cX5_volume 27 = .ok (.getfield 10, 3) := by decide +kernel
theorem dX5_volume_30 : decode cX5_volume 30 = .ok (.invokevirtual 44, 3) := by decide +kernel
theorem dX5_volume_33 : decode cX5_volume 33 = .ok (.aload_n 0, 1) := by decide +kernel
theorem dX5_volume_34 : decode cX5_volume 34 = .ok (.getfield 10, 3) := by decide +kernel
theorem dX5_volume_37 : decode cX5_volume 37 = .ok (.getfield 67, 3) := by decide +kernel
theorem dX5_volume_40 : decode cX5_volume 40 = .ok (.iload_n 1, 1) := by decide +kernel
theorem dX5_volume_41 : decode cX5_volume 41 = .ok (.aaload, 1) := by decide +kernel
theorem dX5_volume_42 : decode cX5_volume 42 = .ok (.getfield 83, 3) := by decide +kernel
theorem dX5_volume_45 : decode cX5_volume 45 = .ok (.istore_n 3, 1) := by decide +kernel
theorem dX5_volume_46 : decode cX5_volume 46 = .ok (.aload_n 0, 1) := by decide +kernel
theorem dX5_volume_47 : decode cX5_volume 47 = .ok (.getfield 10, 3) := by decide +kernel
theorem dX5_volume_50 : decode cX5_volume 50 = .ok (.getfield 67, 3) := by decide +kernel
theorem dX5_volume_53 : decode cX5_volume 53 = .ok (.iload_n 1, 1) := by decide +kernel
theorem dX5_volume_54 : decode cX5_volume 54 = .ok (.aaload, 1) := by decide +kernel
theorem dX5_volume_55 : decode cX5_volume 55 = .ok (.iload_n 2, 1) := by decide +kernel
theorem dX5_volume_56 : decode cX5_volume 56 = .ok (.putfield 83, 3) := by decide +kernel
theorem dX5_volume_59 : decode cX5_volume 59 = .ok (.iload_n 3, 1) := by decide +kernel
theorem dX5_volume_60 : decode cX5_volume 60 = .ok (.ireturn, 1) := by decide +kernel
set_option maxRecDepth 20000 in
theorem ggX5_turn_X5_isNoWheel : GoodIn wsX5_turn wsX5_isNoWheel := goodIn_r _ [8, 9, 10, 7, 11] (by decide +kernel) (by decide +kernel)
set_option maxRecDepth 20000 in
theorem gX5_turn_X5_isNoWheel : GoodIn wsX5_turn (va_wsS RX5 63 yX5_isNoWheel wsX5_isNoWheel) := goodIn_app (goodIn_of _ (by decide +kernel)) ggX5_turn_X5_isNoWheel
set_option maxRecDepth 20000 in
theorem ggX5_turn_X0_keep : GoodIn wsX5_turn wsX0_keep := goodIn_r _ [16, 17, 18, 19, 20, 21, 22, 23, 24, 25, 26, 27, 28, 29, 30, 31, 32, 33, 34, 35, 36, 37, 38, 39, 40, 41, 42, 43, 44, 45, 46, 47, 48, 49, 50, 51, 52, 53, 54, 55, 56, 57, 58, 59, 60, 96, 97, 98, 78, 79, 80, 81, 82, 83, 84, 85, 86, 87, 88, 89, 90, 91, 92, 93, 94, 95] (by decide +kernel) (by decide +kernel)
set_option maxRecDepth 20000 in
theorem gX5_turn_X0_keep : GoodIn wsX5_turn (wsV RX5 44 RX0 yX0_keep wsX0_keep) := goodIn_app (goodIn_of _ (by decide +kernel)) ggX5_turn_X0_keep
set_option maxRecDepth 20000 in
theorem ggX5_turn_X3_maskOfOn : GoodIn wsX5_turn wsX3_maskOfOn := goodIn_r _ [64, 39, 65, 78, 79, 80, 81, 82, 83, 84, 85, 86, 87, 88, 89, 90, 91, 92, 93, 94, 95] (by decide +kernel) (by decide +kernel)
set_option maxRecDepth 20000 in
theorem gX5_turn_X3_maskOfOn : GoodIn wsX5_turn (wsV RX5 90 RX3 yX3_maskOfOn wsX3_maskOfOn) := goodIn_app (goodIn_of _ (by decide +kernel)) ggX5_turn_X3_maskOfOn
set_option maxRecDepth 20000 in
theorem ggX5_turn_J6_bitCount_0f7a4 : GoodIn wsX5_turn wsJ6_bitCount_0f7a4 := goodIn_r _ [69, 70, 71, 72] (by decide +kernel) (by decide +kernel)
set_option maxRecDepth 20000 in
theorem gX5_turn_J6_bitCount_0f7a4 : GoodIn wsX5_turn (va_wsS RX5 94 yJ6_bitCount_0f7a4 wsJ6_bitCount_0f7a4) := goodIn_app (goodIn_of _ (by decide +kernel)) ggX5_turn_J6_bitCount_0f7a4
theorem dX5_turn_0 : decode cX5_turn 0 = .ok (.iload_n 1, 1) := by decide +kernel
theorem dX5_turn_1 : decode cX5_turn 1 = .ok (.invokestatic 63, 3) := by decide +kernel
theorem dX5_turn_4 : decode cX5_turn 4 = .ok (.ifCond .eq 5, 3) := by decide +kernel
theorem dX5_turn_7 : decode cX5_turn 7 = .ok (.iconst (-1), 1) := by decide +kernel
theorem dX5_turn_8 : decode cX5_turn 8 = .ok (.ireturn, 1) := by decide +kernel
theorem dX5_turn_9 : decode cX5_turn 9 = .ok (.aload_n 0, 1) := by decide +kernel
theorem dX5_turn_10 : decode cX5_turn 10 = .ok (.getfield 10, 3) := by decide +kernel
theorem dX5_turn_13 : decode cX5_turn 13 = .ok (.getfield 67, 3) := by decide +kernel
theorem dX5_turn_16 : decode cX5_turn 16 = .ok (.iload_n 1, 1) := by decide +kernel
theorem dX5_turn_17 : decode cX5_turn 17 = .ok (.aaload, 1) := by decide +kernel
theorem dX5_turn_18 : decode cX5_turn 18 = .ok (.getfield 86, 3) := by decide +kernel
theorem dX5_turn_21 : decode cX5_turn 21 = .ok (.iload_n 2, 1) := by decide +kernel
theorem dX5_turn_22 : decode cX5_turn 22 = .ok (.if_icmp .ne 6, 3) := by decide +kernel
theorem dX5_turn_25 : decode cX5_turn 25 = .ok (.bipush (-5), 2) := by decide +kernel
theorem dX5_turn_27 : decode cX5_turn 27 = .ok (.ireturn, 1) := by decide +kernel
theorem dX5_turn_28 : decode cX5_turn 28 = .ok (.aload_n 0, 1) := by decide +kernel
theorem dX5_turn_29 : decode cX5_turn 29 = .ok (.getfield 22, 3) := by decide +kernel
theorem dX5_turn_32 : decode cX5_turn 32 = .ok (.aload_n 0, 1) := by decide +kernel
theorem dX5_turn_33 : decode cX5_turn 33 = .ok (.getfield 10, 3) := by decide +kernel
theorem dX5_turn_36 : decode cX5_turn 36 = .ok (.invokevirtual 44, 3) := by decide +kernel
theorem dX5_turn_39 : decode cX5_turn 39 = .ok (.aload_n 0, 1) := by decide +kernel
theorem dX5_turn_40 : decode cX5_turn 40 = .ok (.getfield 10, 3) := by decide +kernel
theorem dX5_turn_43 : decode cX5_turn 43 = .ok (.getfield 67, 3) := by decide +kernel
theorem dX5_turn_46 : decode cX5_turn 46 = .ok (.iload_n 1, 1) := by decide +kernel
theorem dX5_turn_47 : decode cX5_turn 47 = .ok (.aaload, 1) := by decide +kernel
theorem dX5_turn_48 : decode cX5_turn 48 = .ok (.iload_n 2, 1) := by decide +kernel
theorem dX5_turn_49 : decode cX5_turn 49 = .ok (.putfield 86, 3) := by decide +kernel
theorem dX5_turn_52 : decode cX5_turn 52 = .ok (.aload_n 0, 1) := by decide +kernel
theorem dX5_turn_53 : decode cX5_turn 53 = .ok (.getfield 10, 3) := by decide +kernel
theorem dX5_turn_56 : decode cX5_turn 56 = .ok (.invokevirtual 90, 3) := by decide +kernel
theorem dX5_turn_59 : decode cX5_turn 59 = .ok (.invokestatic 94, 3) := by decide +kernel
theorem dX5_turn_62 : decode cX5_turn 62 = .ok (.ireturn, 1) := by decide +kernel
set_option maxRecDepth 20000 in
theorem ggX5_phase_X5_isNoWheel : GoodIn wsX5_phase wsX5_isNoWheel := goodIn_r _ [9, 10, 11, 8, 12] (by decide +kernel) (by decide +kernel)
set_option maxRecDepth 20000 in
theorem gX5_phase_X5_isNoWheel : GoodIn wsX5_phase (va_wsS RX5 63 yX5_isNoWheel wsX5_isNoWheel) := goodIn_app (goodIn_of _ (by decide +kernel)) ggX5_phase_X5_isNoWheel
set_option maxRecDepth 20000 in
theorem ggX5_phase_X5_isOutside : GoodIn wsX5_phase wsX5_isOutside := goodIn_r _ [12] (by decide +kernel) (by decide +kernel)
set_option maxRecDepth 20000 in
theorem gX5_phase_X5_isOutside : GoodIn wsX5_phase (va_wsS RX5 40 yX5_isOutside wsX5_isOutside) := goodIn_app (goodIn_of _ (by decide +kernel)) ggX5_phase_X5_isOutside
set_option maxRecDepth 20000 in
theorem ggX5_phase_X0_keep : GoodIn wsX5_phase wsX0_keep := goodIn_r _ [17, 18, 19, 20, 21, 22, 23, 24, 25, 26, 27, 28, 29, 30, 31, 32, 33, 34, 35, 36, 37, 38, 39, 40, 41, 42, 43, 44, 45, 46, 47, 48, 49, 50, 51, 52, 53, 54, 55, 56, 57, 58, 59, 60, 61, 85, 86, 87, 67, 68, 69, 70, 71, 72, 73, 74, 75, 76, 77, 78, 79, 80, 81, 82, 83, 84] (by decide +kernel) (by decide +kernel)
set_option maxRecDepth 20000 in
theorem gX5_phase_X0_keep : GoodIn wsX5_phase (wsV RX5 44 RX0 yX0_keep wsX0_keep) := goodIn_app (goodIn_of _ (by decide +kernel)) ggX5_phase_X0_keep
theorem dX5_phase_0 : decode cX5_phase 0 = .ok (.iload_n 1, 1) := by decide +kernel
theorem dX5_phase_1 : decode cX5_phase 1 = .ok (.invokestatic 63, 3) := by decide +kernel
theorem dX5_phase_4 : decode cX5_phase 4 = .ok (.ifCond .eq 5, 3) := by decide +kernel
theorem dX5_phase_7 : decode cX5_phase 7 = .ok (.iconst (-1), 1) := by decide +kernel
theorem dX5_phase_8 : decode cX5_phase 8 = .ok (.ireturn, 1) := by decide +kernel
theorem dX5_phase_9 : decode cX5_phase 9 = .ok (.iload_n 2, 1) := by decide +kernel
theorem dX5_phase_10 : decode cX5_phase 10 = .ok (.iconst 0, 1) := by decide +kernel
theorem dX5_phase_11 : decode cX5_phase 11 = .ok (.ldc 66, 2) := by decide +kernel
theorem dX5_phase_13 : decode cX5_phase 13 = .ok (.invokestatic 40, 3) := by decide +kernel
theorem dX5_phase_16 : decode cX5_phase 16 = .ok (.ifCond .eq 6, 3) := by decide +kernel
theorem dX5_phase_19 : decode cX5_phase 19 = .ok (.bipush (-2), 2) := by decide +kernel
theorem dX5_phase_21 : decode cX5_phase 21 = .ok (.ireturn, 1) := by decide +kernel
theorem dX5_phase_22 : decode cX5_phase 22 = .ok (.aload_n 0, 1) := by decide +kernel
theorem dX5_phase_23 : decode cX5_phase 23 = .ok (.getfield 22, 3) := by decide +kernel
theorem dX5_phase_26 : decode cX5_phase 26 = .ok (.aload_n 0, 1) := by decide +kernel
theorem dX5_phase_27 : decode cX5_phase 27 = .ok (.getfield 10, 3) := by decide +kernel
theorem dX5_phase_30 : decode cX5_phase 30 = .ok (.invokevirtual 44, 3) := by decide +kernel
theorem dX5_phase_33 : decode cX5_phase 33 = .ok (.aload_n 0, 1) := by decide +kernel
theorem dX5_phase_34 : decode cX5_phase 34 = .ok (.getfield 10, 3) := by decide +kernel
theorem dX5_phase_37 : decode cX5_phase 37 = .ok (.getfield 67, 3) := by decide +kernel
theorem dX5_phase_40 : decode cX5_phase 40 = .ok (.iload_n 1, 1) := by decide +kernel
theorem dX5_phase_41 : decode cX5_phase 41 = .ok (.aaload, 1) := by decide +kernel
theorem dX5_phase_42 : decode cX5_phase 42 = .ok (.getfield 100, 3) := by decide +kernel
theorem dX5_phase_45 : decode cX5_phase 45 = .ok (.istore_n 3, 1) := by decide +kernel
theorem dX5_phase_46 : decode cX5_phase 46 = .ok (.aload_n 0, 1) := by decide +kernel
theorem dX5_phase_47 : decode cX5_phase 47 = .ok (.getfield 10, 3) := by decide +kernel
theorem dX5_phase_50 : decode cX5_phase 50 = .ok (.getfield 67, 3) := by decide +kernel
theorem dX5_phase_53 : decode cX5_phase 53 = .ok (.iload_n 1, 1) := by decide +kernel
theorem dX5_phase_54 : decode cX5_phase 54 = .ok (.aaload, 1) := by decide +kernel
theorem dX5_phase_55 : decode cX5_phase 55 = .ok (.iload_n 2, 1) := by decide +kernel
theorem dX5_phase_56 : decode cX5_phase 56 = .ok (.putfield 100, 3) := by decide +kernel
theorem dX5_phase_59 : decode cX5_phase 59 = .ok (.iload_n 3, 1) := by decide +kernel
theorem dX5_phase_60 : decode cX5_phase 60 = .ok (.ireturn, 1) := by decide +kernel
set_option maxRecDepth 20000 in
theorem ggX5_sweep_X5_isNoWheel : GoodIn wsX5_sweep wsX5_isNoWheel := goodIn_r _ [9, 10, 11, 8, 12] (by decide +kernel) (by decide +kernel)
set_option maxRecDepth 20000 in
theorem gX5_sweep_X5_isNoWheel : GoodIn wsX5_sweep (va_wsS RX5 63 yX5_isNoWheel wsX5_isNoWheel) := goodIn_app (goodIn_of _ (by decide +kernel)) ggX5_sweep_X5_isNoWheel
set_option maxRecDepth 20000 in
theorem ggX5_sweep_X5_isOutside : GoodIn wsX5_sweep wsX5_isOutside := goodIn_r _ [12] (by decide +kernel) (by decide +kernel)
set_option maxRecDepth 20000 in
theorem gX5_sweep_X5_isOutside : GoodIn wsX5_sweep (va_wsS RX5 40 yX5_isOutside wsX5_isOutside) := goodIn_app (goodIn_of _ (by decide +kernel)) ggX5_sweep_X5_isOutside
set_option maxRecDepth 20000 in
theorem ggX5_sweep_X0_keep : GoodIn wsX5_sweep wsX0_keep := goodIn_r _ [17, 18, 19, 20, 21, 22, 23, 24, 25, 26, 27, 28, 29, 30, 31, 32, 33, 34, 35, 36, 37, 38, 39, 40, 41, 42, 43, 44, 45, 46, 47, 48, 49, 50, 51, 52, 53, 54, 55, 56, 57, 58, 59, 60, 61, 93, 94, 95, 75, 76, 77, 78, 79, 80, 81, 82, 83, 84, 85, 86, 87, 88, 89, 90, 91, 92] (by decide +kernel) (by decide +kernel)
set_option maxRecDepth 20000 in
theorem gX5_sweep_X0_keep : GoodIn wsX5_sweep (wsV RX5 44 RX0 yX0_keep wsX0_keep) := goodIn_app (goodIn_of _ (by decide +kernel)) ggX5_sweep_X0_keep
set_option maxRecDepth 20000 in
theorem ggX5_sweep_X4_addSweep : GoodIn wsX5_sweep wsX4_addSweep := goodIn_r _ [65, 56, 57, 59, 66, 67, 68, 49, 69, 52, 60, 61, 83, 84, 85, 86, 87, 88, 89, 90, 91, 92] (by decide +kernel) (by decide +kernel)
set_option maxRecDepth 20000 in
theorem gX5_sweep_X4_addSweep : GoodIn wsX5_sweep (wsV RX5 106 RX4 yX4_addSweep wsX4_addSweep) := goodIn_app (goodIn_of _ (by decide +kernel)) ggX5_sweep_X4_addSweep
theorem dX5_sweep_0 : decode cX5_sweep 0 = .ok (.iload_n 1, 1) := by decide +kernel
theorem dX5_sweep_1 : decode cX5_sweep 1 = .ok (.invokestatic 63, 3) := by decide +kernel
theorem dX5_sweep_4 : decode cX5_sweep 4 = .ok (.ifCond .eq 5, 3) := by decide +kernel
theorem dX5_sweep_7 : decode cX5_sweep 7 = .ok (.iconst (-1), 1) := by decide +kernel
theorem dX5_sweep_8 : decode cX5_sweep 8 = .ok (.ireturn, 1) := by decide +kernel
theorem dX5_sweep_9 : decode cX5_sweep 9 = .ok (.iload_n 2, 1) := by decide +kernel
theorem dX5_sweep_10 : decode cX5_sweep 10 = .ok (.iconst 0, 1) := by decide +kernel
theorem dX5_sweep_11 : decode cX5_sweep 11 = .ok (.ldc 66, 2) := by decide +kernel
theorem dX5_sweep_13 : decode cX5_sweep 13 = .ok (.invokestatic 40, 3) := by decide +kernel
theorem dX5_sweep_16 : decode cX5_sweep 16 = .ok (.ifCond .ne 14, 3) := by decide +kernel
theorem dX5_sweep_19 : decode cX5_sweep 19 = .ok (.iload_n 3, 1) := by decide +kernel
theorem dX5_sweep_20 : decode cX5_sweep 20 = .ok (.iconst 1, 1) := by decide +kernel
theorem dX5_sweep_21 : decode cX5_sweep 21 = .ok (.sipush 999, 3) := by decide +kernel
theorem dX5_sweep_24 : decode cX5_sweep 24 = .ok (.invokestatic 40, 3) := by decide +kernel
theorem dX5_sweep_27 : decode cX5_sweep 27 = .ok (.ifCond .eq 6, 3) := by decide +kernel
theorem dX5_sweep_30 : decode cX5_sweep 30 = .ok (.bipush (-2), 2) := by decide +kernel
theorem dX5_sweep_32 : decode cX5_sweep 32 = .ok (.ireturn, 1) := by decide +kernel
theorem dX5_sweep_33 : decode cX5_sweep 33 = .ok (.aload_n 0, 1) := by decide +kernel
theorem dX5_sweep_34 : decode cX5_sweep 34 = .ok (.getfield 10, 3) := by decide +kernel
theorem dX5_sweep_37 : decode cX5_sweep 37 = .ok (.getfield 67, 3) := by decide +kernel
theorem dX5_sweep_40 : decode cX5_sweep 40 = .ok (.iload_n 1, 1) := by decide +kernel
theorem dX5_sweep_41 : decode cX5_sweep 41 = .ok (.aaload, 1) := by decide +kernel
theorem dX5_sweep_42 : decode cX5_sweep 42 = .ok (.getfield 103, 3) := by decide +kernel
theorem dX5_sweep_45 : decode cX5_sweep 45 = .ok (.iconst 4, 1) := by decide +kernel
theorem dX5_sweep_46 : decode cX5_sweep 46 = .ok (.if_icmp .lt 6, 3) := by decide +kernel
theorem dX5_sweep_49 : decode cX5_sweep 49 = .ok (.bipush (-4), 2) := by decide +kernel
theorem dX5_sweep_51 : decode cX5_sweep 51 = .ok (.ireturn, 1) := by decide +kernel
theorem dX5_sweep_52 : decode cX5_sweep 52 = .ok (.aload_n 0, 1) := by decide +kernel
theorem dX5_sweep_53 : decode cX5_sweep 53 = .ok (.getfield 22, 3) := by decide +kernel
theorem dX5_sweep_56 : decode cX5_sweep 56 = .ok (.aload_n 0, 1) := by decide +kernel
theorem dX5_sweep_57 : decode cX5_sweep 57 = .ok (.getfield 10, 3) := by decide +kernel
theorem dX5_sweep_60 : decode cX5_sweep 60 = .ok (.invokevirtual 44, 3) := by decide +kernel
theorem dX5_sweep_63 : decode cX5_sweep 63 = .ok (.aload_n 0, 1) := by decide +kernel
theorem dX5_sweep_64 : decode cX5_sweep 64 = .ok (.getfield 10, 3) := by decide +kernel
theorem dX5_sweep_67 : decode cX5_sweep 67 = .ok (.getfield 67, 3) := by decide +kernel
theorem dX5_sweep_70 : decode cX5_sweep 70 = .ok (.iload_n 1, 1) := by decide +kernel
theorem dX5_sweep_71 : decode cX5_sweep 71 = .ok (.aaload, 1) := by decide +kernel
theorem dX5_sweep_72 : decode cX5_sweep 72 = .ok (.iload_n 2, 1) := by decide +kernel
theorem dX5_sweep_73 : decode cX5_sweep 73 = .ok (.iload_n 3, 1) := by decide +kernel
theorem dX5_sweep_74 : decode cX5_sweep 74 = .ok (.invokevirtual 106, 3) := by decide +kernel
theorem dX5_sweep_77 : decode cX5_sweep 77 = .ok (.pop, 1) := by decide +kernel
theorem dX5_sweep_78 : decode cX5_sweep 78 = .ok (.aload_n 0, 1) := by decide +kernel
theorem dX5_sweep_79 : decode cX5_sweep 79 = .ok (.getfield 10, 3) := by decide +kernel
theorem dX5_sweep_82 : decode cX5_sweep 82 = .ok (.getfield 67, 3) := by decide +kernel
theorem dX5_sweep_85 : decode cX5_sweep 85 = .ok (.iload_n 1, 1) := by decide +kernel
theorem dX5_sweep_86 : decode cX5_sweep 86 = .ok (.aaload, 1) := by decide +kernel
theorem dX5_sweep_87 : decode cX5_sweep 87 = .ok (.getfield 103, 3) := by decide +kernel
theorem dX5_sweep_90 : decode cX5_sweep 90 = .ok (.ireturn, 1) := by decide +kernel
set_option maxRecDepth 20000 in
theorem ggX5_make_X5_isOutside : GoodIn wsX5_make wsX5_isOutside := goodIn_r _ [6] (by decide +kernel) (by decide +kernel)
set_option maxRecDepth 20000 in
theorem gX5_make_X5_isOutside : GoodIn wsX5_make (va_wsS RX5 40 yX5_isOutside wsX5_isOutside) := goodIn_app (goodIn_of _ (by decide +kernel)) ggX5_make_X5_isOutside
set_option maxRecDepth 20000 in
theorem ggX5_make_X3_hasNoRoomFor : GoodIn wsX5_make wsX3_hasNoRoomFor := goodIn_r _ [11, 12, 13, 116, 117, 118, 119, 120, 121, 122, 123] (by decide +kernel) (by decide +kernel)
set_option maxRecDepth 20000 in
theorem gX5_make_X3_hasNoRoomFor : GoodIn wsX5_make (wsV RX5 110 RX3 yX3_hasNoRoomFor wsX3_hasNoRoomFor) := goodIn_app (goodIn_of _ (by decide +kernel)) ggX5_make_X3_hasNoRoomFor
set_option maxRecDepth 20000 in
theorem ggX5_make_X0_keep : GoodIn wsX5_make wsX0_keep := goodIn_r _ [18, 19, 20, 21, 22, 23, 24, 25, 26, 27, 28, 29, 30, 31, 32, 10, 33, 34, 35, 36, 37, 38, 39, 40, 13, 41, 42, 43, 44, 45, 46, 47, 48, 49, 50, 51, 52, 53, 54, 55, 56, 57, 58, 59, 60, 124, 125, 126, 116, 117, 118, 119, 120, 121, 122, 123, 127, 128, 129, 130, 131, 132, 133, 134, 135, 136] (by decide +kernel) (by decide +kernel)
set_option maxRecDepth 20000 in
theorem gX5_make_X0_keep : GoodIn wsX5_make (wsV RX5 44 RX0 yX0_keep wsX0_keep) := goodIn_app (goodIn_of _ (by decide +kernel)) ggX5_make_X0_keep
set_option maxRecDepth 20000 in
theorem ggX5_make_X3_makeSome : GoodIn wsX5_make wsX3_makeSome := goodIn_r _ [64, 65, 8, 9, 10, 11, 12, 13, 66, 67, 68, 69, 34, 41, 70, 23, 24, 25, 40, 71, 72, 73, 74, 75, 76, 77, 78, 79, 80, 81, 35, 82, 83, 84, 85, 86, 43, 42, 87, 44, 88, 89, 90, 91, 92, 27, 28, 29, 93, 94, 95, 48, 96, 50, 51, 97, 55, 98, 99, 100, 101, 58, 60, 59, 56, 102, 103, 104, 105, 106, 107, 108, 109, 116, 117, 118, 119, 120, 121, 122, 123, 127, 128, 129, 130, 131, 132, 133, 134, 135, 136] (by decide +kernel) (by decide +kernel)
set_option maxRecDepth 20000 in
theorem gX5_make_X3_makeSome : GoodIn wsX5_make (wsV RX5 113 RX3 yX3_makeSome wsX3_makeSome) := goodIn_app (goodIn_of _ (by decide +kernel)) ggX5_make_X3_makeSome
set_option maxRecDepth 20000 in
theorem ggX5_make_X3_mixtureAgo : GoodIn wsX5_make wsX3_mixtureAgo := goodIn_r _ [91, 44, 13, 92, 27, 28, 29, 116, 117, 118, 119, 120, 121, 122, 123] (by decide +kernel) (by decide +kernel)
set_option maxRecDepth 20000 in
theorem gX5_make_X3_mixtureAgo : GoodIn wsX5_make (wsV RX5 116 RX3 yX3_mixtureAgo wsX3_mixtureAgo) := goodIn_app (goodIn_of _ (by decide +kernel)) ggX5_make_X3_mixtureAgo
theorem dX5_make_0 : decode cX5_make 0 = .ok (.iload_n 1, 1) := by decide +kernel
theorem dX5_make_1 : decode cX5_make 1 = .ok (.iconst 1, 1) := by decide +kernel
theorem dX5_make_2 : decode cX5_make 2 = .ok (.sipush 999, 3) := by decide +kernel
theorem dX5_make_5 : decode cX5_make 5 = .ok (.invokestatic 40, 3) := by decide +kernel
theorem dX5_make_8 : decode cX5_make 8 = .ok (.ifCond .eq 6, 3) := by decide +kernel
theorem dX5_make_11 : decode cX5_make 11 = .ok (.bipush (-2), 2) := by decide +kernel
theorem dX5_make_13 : decode cX5_make 13 = .ok (.ireturn, 1) := by decide +kernel
theorem dX5_make_14 : decode cX5_make 14 = .ok (.aload_n 0, 1) := by decide +kernel
theorem dX5_make_15 : decode cX5_make 15 = .ok (.getfield 10, 3) := by decide +kernel
theorem dX5_make_18 : decode cX5_make 18 = .ok (.iload_n 1, 1) := by decide +kernel
theorem dX5_make_19 : decode cX5_make 19 = .ok (.invokevirtual 110, 3) := by decide +kernel
theorem dX5_make_22 : decode cX5_make 22 = .ok (.ifCond .eq 6, 3) := by decide +kernel
theorem dX5_make_25 : decode cX5_make 25 = .ok (.bipush (-4), 2) := by decide +kernel
theorem dX5_make_27 : decode cX5_make 27 = .ok (.ireturn, 1) := by decide +kernel
theorem dX5_make_28 : decode cX5_make 28 = .ok (.aload_n 0, 1) := by decide +kernel
theorem dX5_make_29 : decode cX5_make 29 = .ok (.getfield 22, 3) := by decide +kernel
theorem dX5_make_32 : decode cX5_make 32 = .ok (.aload_n 0, 1) := by decide +kernel
theorem dX5_make_33 : decode cX5_make 33 = .ok (.getfield 10, 3) := by decide +kernel
theorem dX5_make_36 : decode cX5_make 36 = .ok (.invokevirtual 44, 3) := by decide +kernel
theorem dX5_make_39 : decode cX5_make 39 = .ok (.aload_n 0, 1) := by decide +kernel
theorem dX5_make_40 : decode cX5_make 40 = .ok (.getfield 10, 3) := by decide +kernel
theorem dX5_make_43 : decode cX5_make 43 = .ok (.iload_n 1, 1) := by decide +kernel
theorem dX5_make_44 : decode cX5_make 44 = .ok (.invokevirtual 113, 3) := by decide +kernel
theorem dX5_make_47 : decode cX5_make 47 = .ok (.pop, 1) := by decide +kernel
theorem dX5_make_48 : decode cX5_make 48 = .ok (.aload_n 0, 1) := by decide +kernel
theorem dX5_make_49 : decode cX5_make 49 = .ok (.getfield 10, 3) := by decide +kernel
theorem dX5_make_52 : decode cX5_make 52 = .ok (.iconst 0, 1) := by decide +kernel
theorem dX5_make_53 : decode cX5_make 53 = .ok (.invokevirtual 116, 3) := by decide +kernel
theorem dX5_make_56 : decode cX5_make 56 = .ok (.ireturn, 1) := by decide +kernel
set_option maxRecDepth 20000 in
theorem ggX5_wheel_X5_isNoWheel : GoodIn wsX5_wheel wsX5_isNoWheel := goodIn_r _ [12, 13, 14, 11, 15] (by decide +kernel) (by decide +kernel)
set_option maxRecDepth 20000 in
theorem gX5_wheel_X5_isNoWheel : GoodIn wsX5_wheel (va_wsS RX5 63 yX5_isNoWheel wsX5_isNoWheel) := goodIn_app (goodIn_of _ (by decide +kernel)) ggX5_wheel_X5_isNoWheel
set_option maxRecDepth 20000 in
theorem ggX5_wheel_X3_valueGivenBy : GoodIn wsX5_wheel wsX3_valueGivenBy := goodIn_r _ [20, 21, 22, 23, 24, 62, 63, 64, 65, 66, 67, 68, 69, 70, 71, 54, 55, 56, 57, 58, 59, 60, 61] (by decide +kernel) (by decide +kernel)
set_option maxRecDepth 20000 in
theorem gX5_wheel_X3_valueGivenBy : GoodIn wsX5_wheel (wsV RX5 138 RX3 yX3_valueGivenBy wsX3_valueGivenBy) := goodIn_app (goodIn_of _ (by decide +kernel)) ggX5_wheel_X3_valueGivenBy
set_option maxRecDepth 20000 in
theorem ggX5_wheel_X4_image : GoodIn wsX5_wheel wsX4_image := goodIn_r _ [29, 30, 31, 32, 62, 63, 64, 65, 66, 67, 68, 69, 70, 71] (by decide +kernel) (by decide +kernel)
set_option maxRecDepth 20000 in
theorem gX5_wheel_X4_image : GoodIn wsX5_wheel (wsV RX5 142 RX4 yX4_image wsX4_image) := goodIn_app (goodIn_of _ (by decide +kernel)) ggX5_wheel_X4_image
set_option maxRecDepth 20000 in
theorem ggX5_wheel_X4_samplesOfARound : GoodIn wsX5_wheel wsX4_samplesOfARound := goodIn_r _ [36, 30, 32, 62, 63, 64, 65, 66, 67, 68, 69, 70, 71] (by decide +kernel) (by decide +kernel)
set_option maxRecDepth 20000 in
theorem gX5_wheel_X4_samplesOfARound : GoodIn wsX5_wheel (wsV RX5 145 RX4 yX4_samplesOfARound wsX4_samplesOfARound) := goodIn_app (goodIn_of _ (by decide +kernel)) ggX5_wheel_X4_samplesOfARound
set_option maxRecDepth 20000 in
theorem ggX5_wheel_X4_samplesOfSweeps : GoodIn wsX5_wheel wsX4_samplesOfSweeps := goodIn_r _ [40, 41, 42, 43, 62, 63, 64, 65, 66, 67, 68, 69, 70, 71] (by decide +kernel) (by decide +kernel)
set_option maxRecDepth 20000 in
theorem gX5_wheel_X4_samplesOfSweeps : GoodIn wsX5_wheel (wsV RX5 148 RX4 yX4_samplesOfSweeps wsX4_samplesOfSweeps) := goodIn_app (goodIn_of _ (by decide +kernel)) ggX5_wheel_X4_samplesOfSweeps
set_option maxRecDepth 20000 in
theorem ggX5_wheel_X4_lastStep : GoodIn wsX5_wheel wsX4_lastStep := goodIn_r _ [47, 41, 48, 30, 62, 63, 64, 65, 66, 67, 68, 69, 70, 71] (by decide +kernel) (by decide +kernel)
set_option maxRecDepth 20000 in
theorem gX5_wheel_X4_lastStep : GoodIn wsX5_wheel (wsV RX5 151 RX4 yX4_lastStep wsX4_lastStep) := goodIn_app (goodIn_of _ (by decide +kernel)) ggX5_wheel_X4_lastStep
theorem dX5_wheel_0 : decode cX5_wheel 0 = .ok (.iload_n 1, 1) := by decide +kernel
theorem dX5_wheel_1 : decode cX5_wheel 1 = .ok (.invokestatic 63, 3) := by decide +kernel
theorem dX5_wheel_4 : decode cX5_wheel 4 = .ok (.ifCond .eq 5, 3) := by decide +kernel
theorem dX5_wheel_7 : decode cX5_wheel 7 = .ok (.iconst (-1), 1) := by decide +kernel
theorem dX5_wheel_8 : decode cX5_wheel 8 = .ok (.ireturn, 1) := by decide +kernel
theorem dX5_wheel_9 : decode cX5_wheel 9 = .ok (.aload_n 0, 1) := by decide +kernel
theorem dX5_wheel_10 : decode cX5_wheel 10 = .ok (.getfield 10, 3) := by decide +kernel
theorem dX5_wheel_13 : decode cX5_wheel 13 = .ok (.getfield 67, 3) := by decide +kernel
theorem dX5_wheel_16 : decode cX5_wheel 16 = .ok (.iload_n 1, 1) := by decide +kernel
theorem dX5_wheel_17 : decode cX5_wheel 17 = .ok (.aaload, 1) := by decide +kernel
theorem dX5_wheel_18 : decode cX5_wheel 18 = .ok (.astore_n 3, 1) := by decide +kernel
theorem dX5_wheel_19 : decode cX5_wheel 19 = .ok (.iload_n 2, 1) := by decide +kernel
theorem dX5_wheel_20 : decode cX5_wheel 20 = .ok (.tableswitch 127 0 10 #[60, 65, 70, 75, 80, 93, 98, 107, 112, 117, 122], 60) := by decide +kernel
theorem dX5_wheel_80 : decode cX5_wheel 80 = .ok (.aload_n 3, 1) := by decide +kernel
theorem dX5_wheel_81 : decode cX5_wheel 81 = .ok (.getfield 100, 3) := by decide +kernel
theorem dX5_wheel_84 : decode cX5_wheel 84 = .ok (.ireturn, 1) := by decide +kernel
theorem dX5_wheel_85 : decode cX5_wheel 85 = .ok (.aload_n 3, 1) := by decide +kernel
theorem dX5_wheel_86 : decode cX5_wheel 86 = .ok (.getfield 71, 3) := by decide +kernel
theorem dX5_wheel_89 : decode cX5_wheel 89 = .ok (.ireturn, 1) := by decide +kernel
theorem dX5_wheel_90 : decode cX5_wheel 90 = .ok (.aload_n 3, 1) := by decide +kernel
theorem dX5_wheel_91 : decode cX5_wheel 91 = .ok (.getfield 80, 3) := by decide +kernel
theorem dX5_wheel_94 : decode cX5_wheel 94 = .ok (.ireturn, 1) := by decide +kernel
theorem dX5_wheel_95 : decode cX5_wheel 95 = .ok (.aload_n 3, 1) := by decide +kernel
theorem dX5_wheel_96 : decode cX5_wheel 96 = .ok (.getfield 83, 3) := by decide +kernel
theorem dX5_wheel_99 : decode cX5_wheel 99 = .ok (.ireturn, 1) := by decide +kernel
theorem dX5_wheel_100 : decode cX5_wheel 100 = .ok (.aload_n 3, 1) := by decide +kernel
theorem dX5_wheel_101 : decode cX5_wheel 101 = .ok (.getfield 86, 3) := by decide +kernel
theorem dX5_wheel_104 : decode cX5_wheel 104 = .ok (.ifCond .eq 7, 3) := by decide +kernel
theorem dX5_wheel_107 : decode cX5_wheel 107 = .ok (.iconst 1, 1) := by decide +kernel
theorem dX5_wheel_108 : decode cX5_wheel 108 = .ok (.goto 4, 3) := by decide +kernel
theorem dX5_wheel_111 : decode cX5_wheel 111 = .ok (.iconst 0, 1) := by decide +kernel
theorem dX5_wheel_112 : decode cX5_wheel 112 = .ok (.ireturn, 1) := by decide +kernel
theorem dX5_wheel_113 : decode cX5_wheel 113 = .ok (.aload_n 3, 1) := by decide +kernel
theorem dX5_wheel_114 : decode cX5_wheel 114 = .ok (.getfield 103, 3) := by decide +kernel
theorem dX5_wheel_117 : decode cX5_wheel 117 = .ok (.ireturn, 1) := by decide +kernel
theorem dX5_wheel_118 : decode cX5_wheel 118 = .ok (.aload_n 0, 1) := by decide +kernel
theorem dX5_wheel_119 : decode cX5_wheel 119 = .ok (.getfield 10, 3) := by decide +kernel
theorem dX5_wheel_122 : decode cX5_wheel 122 = .ok (.aload_n 3, 1) := by decide +kernel
theorem dX5_wheel_123 : decode cX5_wheel 123 = .ok (.invokevirtual 138, 3) := by decide +kernel
theorem dX5_wheel_126 : decode cX5_wheel 126 = .ok (.ireturn, 1) := by decide +kernel
theorem dX5_wheel_127 : decode cX5_wheel 127 = .ok (.aload_n 3, 1) := by decide +kernel
theorem dX5_wheel_128 : decode cX5_wheel 128 = .ok (.invokevirtual 142, 3) := by decide +kernel
theorem dX5_wheel_131 : decode cX5_wheel 131 = .ok (.ireturn, 1) := by decide +kernel
theorem dX5_wheel_132 : decode cX5_wheel 132 = .ok (.aload_n 3, 1) := by decide +kernel
theorem dX5_wheel_133 : decode cX5_wheel 133 = .ok (.invokevirtual 145, 3) := by decide +kernel
theorem dX5_wheel_136 : decode cX5_wheel 136 = .ok (.ireturn, 1) := by decide +kernel
theorem dX5_wheel_137 : decode cX5_wheel 137 = .ok (.aload_n 3, 1) := by decide +kernel
theorem dX5_wheel_138 : decode cX5_wheel 138 = .ok (.invokevirtual 148, 3) := by decide +kernel
theorem dX5_wheel_141 : decode cX5_wheel 141 = .ok (.ireturn, 1) := by decide +kernel
theorem dX5_wheel_142 : decode cX5_wheel 142 = .ok (.aload_n 3, 1) := by decide +kernel
theorem dX5_wheel_143 : decode cX5_wheel 143 = .ok (.invokevirtual 151, 3) := by decide +kernel
theorem dX5_wheel_146 : decode cX5_wheel 146 = .ok (.ireturn, 1) := by decide +kernel
theorem dX5_wheel_147 : decode cX5_wheel 147 = .ok (.bipush (-2), 2) := by decide +kernel
theorem dX5_wheel_149 : decode cX5_wheel 149 = .ok (.ireturn, 1) := by decide +kernel
set_option maxRecDepth 20000 in
theorem ggX5_valueOf_X5_isNoTable : GoodIn wsX5_valueOf wsX5_isNoTable := goodIn_r _ [6, 7, 8, 5, 9] (by decide +kernel) (by decide +kernel)
set_option maxRecDepth 20000 in
theorem gX5_valueOf_X5_isNoTable : GoodIn wsX5_valueOf (va_wsS RX5 52 yX5_isNoTable wsX5_isNoTable) := goodIn_app (goodIn_of _ (by decide +kernel)) ggX5_valueOf_X5_isNoTable
set_option maxRecDepth 20000 in
theorem ggX5_valueOf_X5_isNoPlace : GoodIn wsX5_valueOf wsX5_isNoPlace := goodIn_r _ [12, 7, 8, 5, 9] (by decide +kernel) (by decide +kernel)
set_option maxRecDepth 20000 in
theorem gX5_valueOf_X5_isNoPlace : GoodIn wsX5_valueOf (va_wsS RX5 56 yX5_isNoPlace wsX5_isNoPlace) := goodIn_app (goodIn_of _ (by decide +kernel)) ggX5_valueOf_X5_isNoPlace
theorem dX5_valueOf_0 : decode cX5_valueOf 0 = .ok (.iload_n 1, 1) := by decide +kernel
theorem dX5_valueOf_1 : decode cX5_valueOf 1 = .ok (.invokestatic 52, 3) := by decide +kernel
theorem dX5_valueOf_4 : decode cX5_valueOf 4 = .ok (.ifCond .ne 10, 3) := by decide +kernel
theorem dX5_valueOf_7 : decode cX5_valueOf 7 = .ok (.iload_n 2, 1) := by decide +kernel
theorem dX5_valueOf_8 : decode cX5_valueOf 8 = .ok (.invokestatic 56, 3) := by decide +kernel
theorem dX5_valueOf_11 : decode cX5_valueOf 11 = .ok (.ifCond .eq 5, 3) := by decide +kernel
theorem dX5_valueOf_14 : decode cX5_valueOf 14 = .ok (.iconst (-1), 1) := by decide +kernel
theorem dX5_valueOf_15 : decode cX5_valueOf 15 = .ok (.ireturn, 1) := by decide +kernel
theorem dX5_valueOf_16 : decode cX5_valueOf 16 = .ok (.aload_n 0, 1) := by decide +kernel
theorem dX5_valueOf_17 : decode cX5_valueOf 17 = .ok (.getfield 10, 3) := by decide +kernel
theorem dX5_valueOf_20 : decode cX5_valueOf 20 = .ok (.getfield 59, 3) := by decide +kernel
theorem dX5_valueOf_23 : decode cX5_valueOf 23 = .ok (.iload_n 1, 1) := by decide +kernel
theorem dX5_valueOf_24 : decode cX5_valueOf 24 = .ok (.bipush 16, 2) := by decide +kernel
theorem dX5_valueOf_26 : decode cX5_valueOf 26 = .ok (.imul, 1) := by decide +kernel
theorem dX5_valueOf_27 : decode cX5_valueOf 27 = .ok (.iload_n 2, 1) := by decide +kernel
theorem dX5_valueOf_28 : decode cX5_valueOf 28 = .ok (.iadd, 1) := by decide +kernel
theorem dX5_valueOf_29 : decode cX5_valueOf 29 = .ok (.iaload, 1) := by decide +kernel
theorem dX5_valueOf_30 : decode cX5_valueOf 30 = .ok (.ireturn, 1) := by decide +kernel
set_option maxRecDepth 20000 in
theorem ggX5_sample_X5_isOutside : GoodIn wsX5_sample wsX5_isOutside := goodIn_r _ [6] (by decide +kernel) (by decide +kernel)
set_option maxRecDepth 20000 in
theorem gX5_sample_X5_isOutside : GoodIn wsX5_sample (va_wsS RX5 40 yX5_isOutside wsX5_isOutside) := goodIn_app (goodIn_of _ (by decide +kernel)) ggX5_sample_X5_isOutside
set_option maxRecDepth 20000 in
theorem ggX5_sample_X3_mixtureAgo : GoodIn wsX5_sample wsX3_mixtureAgo := goodIn_r _ [11, 12, 13, 14, 15, 16, 17, 23, 24, 25, 26, 27, 28, 29, 30] (by decide +kernel) (by decide +kernel)
set_option maxRecDepth 20000 in
theorem gX5_sample_X3_mixtureAgo : GoodIn wsX5_sample (wsV RX5 116 RX3 yX3_mixtureAgo wsX3_mixtureAgo) := goodIn_app (goodIn_of _ (by decide +kernel)) ggX5_sample_X3_mixtureAgo
theorem dX5_sample_0 : decode cX5_sample 0 = .ok (.iload_n 1, 1) := by decide +kernel
theorem dX5_sample_1 : decode cX5_sample 1 = .ok (.iconst 0, 1) := by decide +kernel
theorem dX5_sample_2 : decode cX5_sample 2 = .ok (.bipush 31, 2) := by decide +kernel
theorem dX5_sample_4 : decode cX5_sample 4 = .ok (.invokestatic 40, 3) := by decide +kernel
theorem dX5_sample_7 : decode cX5_sample 7 = .ok (.ifCond .eq 6, 3) := by decide +kernel
theorem dX5_sample_10 : decode cX5_sample 10 = .ok (.bipush (-2), 2) := by decide +kernel
theorem dX5_sample_12 : decode cX5_sample 12 = .ok (.ireturn, 1) := by decide +kernel
theorem dX5_sample_13 : decode cX5_sample 13 = .ok (.iload_n 1, 1) := by decide +kernel
theorem dX5_sample_14 : decode cX5_sample 14 = .ok (.aload_n 0, 1) := by decide +kernel
theorem dX5_sample_15 : decode cX5_sample 15 = .ok (.getfield 10, 3) := by decide +kernel
theorem dX5_sample_18 : decode cX5_sample 18 = .ok (.getfield 154, 3) := by decide +kernel
theorem dX5_sample_21 : decode cX5_sample 21 = .ok (.if_icmp .ge 14, 3) := by decide +kernel
theorem dX5_sample_24 : decode cX5_sample 24 = .ok (.aload_n 0, 1) := by decide +kernel
theorem dX5_sample_25 : decode cX5_sample 25 = .ok (.getfield 10, 3) := by decide +kernel
theorem dX5_sample_28 : decode cX5_sample 28 = .ok (.iload_n 1, 1) := by decide +kernel
theorem dX5_sample_29 : decode cX5_sample 29 = .ok (.invokevirtual 116, 3) := by decide +kernel
theorem dX5_sample_32 : decode cX5_sample 32 = .ok (.goto 5, 3) := by decide +kernel
theorem dX5_sample_35 : decode cX5_sample 35 = .ok (.bipush (-6), 2) := by decide +kernel
theorem dX5_sample_37 : decode cX5_sample 37 = .ok (.ireturn, 1) := by decide +kernel
set_option maxRecDepth 20000 in
theorem ggX5_beat_X5_isNoWheel : GoodIn wsX5_beat wsX5_isNoWheel := goodIn_r _ [10, 11, 12, 9, 13] (by decide +kernel) (by decide +kernel)
set_option maxRecDepth 20000 in
theorem gX5_beat_X5_isNoWheel : GoodIn wsX5_beat (va_wsS RX5 63 yX5_isNoWheel wsX5_isNoWheel) := goodIn_app (goodIn_of _ (by decide +kernel)) ggX5_beat_X5_isNoWheel
set_option maxRecDepth 20000 in
theorem ggX5_beat_X4_image : GoodIn wsX5_beat wsX4_image := goodIn_r _ [18, 19, 20, 21, 35, 36, 37, 38, 39, 40, 41, 42, 43, 44] (by decide +kernel) (by decide +kernel)
set_option maxRecDepth 20000 in
theorem gX5_beat_X4_image : GoodIn wsX5_beat (wsV RX5 142 RX4 yX4_image wsX4_image) := goodIn_app (goodIn_of _ (by decide +kernel)) ggX5_beat_X4_image
theorem dX5_beat_0 : decode cX5_beat 0 = .ok (.iload_n 1, 1) := by decide +kernel
theorem dX5_beat_1 : decode cX5_beat 1 = .ok (.invokestatic 63, 3) := by decide +kernel
theorem dX5_beat_4 : decode cX5_beat 4 = .ok (.ifCond .ne 10, 3) := by decide +kernel
theorem dX5_beat_7 : decode cX5_beat 7 = .ok (.iload_n 2, 1) := by decide +kernel
theorem dX5_beat_8 : decode cX5_beat 8 = .ok (.invokestatic 63, 3) := by decide +kernel
theorem dX5_beat_11 : decode cX5_beat 11 = .ok (.ifCond .eq 5, 3) := by decide +kernel
theorem dX5_beat_14 : decode cX5_beat 14 = .ok (.iconst (-1), 1) := by decide +kernel
theorem dX5_beat_15 : decode cX5_beat 15 = .ok (.ireturn, 1) := by decide +kernel
theorem dX5_beat_16 : decode cX5_beat 16 = .ok (.aload_n 0, 1) := by decide +kernel
theorem dX5_beat_17 : decode cX5_beat 17 = .ok (.getfield 10, 3) := by decide +kernel
theorem dX5_beat_20 : decode cX5_beat 20 = .ok (.getfield 67, 3) := by decide +kernel
theorem dX5_beat_23 : decode cX5_beat 23 = .ok (.iload_n 1, 1) := by decide +kernel
theorem dX5_beat_24 : decode cX5_beat 24 = .ok (.aaload, 1) := by decide +kernel
theorem dX5_beat_25 : decode cX5_beat 25 = .ok (.invokevirtual 142, 3) := by decide +kernel
theorem dX5_beat_28 : decode cX5_beat 28 = .ok (.aload_n 0, 1) := by decide +kernel
theorem dX5_beat_29 : decode cX5_beat 29 = .ok (.getfield 10, 3) := by decide +kernel
theorem dX5_beat_32 : decode cX5_beat 32 = .ok (.getfield 67, 3) := by decide +kernel
theorem dX5_beat_35 : decode cX5_beat 35 = .ok (.iload_n 2, 1) := by decide +kernel
theorem dX5_beat_36 : decode cX5_beat 36 = .ok (.aaload, 1) := by decide +kernel
theorem dX5_beat_37 : decode cX5_beat 37 = .ok (.invokevirtual 142, 3) := by decide +kernel
theorem dX5_beat_40 : decode cX5_beat 40 = .ok (.isub, 1) := by decide +kernel
theorem dX5_beat_41 : decode cX5_beat 41 = .ok (.invokestatic 157, 3) := by decide +kernel
theorem dX5_beat_44 : decode cX5_beat 44 = .ok (.ireturn, 1) := by decide +kernel
set_option maxRecDepth 20000 in
theorem ggX5_count_X3_maskOfOn : GoodIn wsX5_count wsX3_maskOfOn := goodIn_r _ [19, 20, 21, 53, 54, 55, 56, 57, 58, 59, 60, 71, 72, 73, 74, 75, 76, 77, 78, 79, 80] (by decide +kernel) (by decide +kernel)
set_option maxRecDepth 20000 in
theorem gX5_count_X3_maskOfOn : GoodIn wsX5_count (wsV RX5 90 RX3 yX3_maskOfOn wsX3_maskOfOn) := goodIn_app (goodIn_of _ (by decide +kernel)) ggX5_count_X3_maskOfOn
set_option maxRecDepth 20000 in
theorem ggX5_count_X3_sumOfOn : GoodIn wsX5_count wsX3_sumOfOn := goodIn_r _ [25, 20, 21, 26, 27, 28, 18, 29, 30, 31, 32, 33, 53, 54, 55, 56, 57, 58, 59, 60, 71, 72, 73, 74, 75, 76, 77, 78, 79, 80] (by decide +kernel) (by decide +kernel)
set_option maxRecDepth 20000 in
theorem gX5_count_X3_sumOfOn : GoodIn wsX5_count (wsV RX5 165 RX3 yX3_sumOfOn wsX3_sumOfOn) := goodIn_app (goodIn_of _ (by decide +kernel)) ggX5_count_X3_sumOfOn
set_option maxRecDepth 20000 in
theorem ggX5_count_X3_samplesOfARoundOfAll : GoodIn wsX5_count wsX3_samplesOfARoundOfAll := goodIn_r _ [37, 20, 21, 38, 39, 7, 40, 41, 42, 43, 44, 45, 46, 47, 53, 54, 55, 56, 57, 58, 59, 60, 71, 72, 73, 74, 75, 76, 77, 78, 79, 80] (by decide +kernel) (by decide +kernel)
set_option maxRecDepth 20000 in
theorem gX5_count_X3_samplesOfARoundOfAll : GoodIn wsX5_count (wsV RX5 178 RX3 yX3_samplesOfARoundOfAll wsX3_samplesOfARoundOfAll) := goodIn_app (goodIn_of _ (by decide +kernel)) ggX5_count_X3_samplesOfARoundOfAll
theorem dX5_count_0 : decode cX5_count 0 = .ok (.iload_n 1, 1) := by decide +kernel
theorem dX5_count_1 : decode cX5_count 1 = .ok (.tableswitch 145 0 9 #[55, 63, 71, 79, 87, 105, 113, 121, 129, 137], 55) := by decide +kernel
theorem dX5_count_56 : decode cX5_count 56 = .ok (.aload_n 0, 1) := by decide +kernel
theorem dX5_count_57 : decode cX5_count 57 = .ok (.getfield 10, 3) := by decide +kernel
theorem dX5_count_60 : decode cX5_count 60 = .ok (.getfield 48, 3) := by decide +kernel
theorem dX5_count_63 : decode cX5_count 63 = .ok (.ireturn, 1) := by decide +kernel
theorem dX5_count_64 : decode cX5_count 64 = .ok (.aload_n 0, 1) := by decide +kernel
theorem dX5_count_65 : decode cX5_count 65 = .ok (.getfield 10, 3) := by decide +kernel
theorem dX5_count_68 : decode cX5_count 68 = .ok (.getfield 154, 3) := by decide +kernel
theorem dX5_count_71 : decode cX5_count 71 = .ok (.ireturn, 1) := by decide +kernel
theorem dX5_count_72 : decode cX5_count 72 = .ok (.aload_n 0, 1) := by decide +kernel
theorem dX5_count_73 : decode cX5_count 73 = .ok (.getfield 10, 3) := by decide +kernel
theorem dX5_count_76 : decode cX5_count 76 = .ok (.getfield 162, 3) := by decide +kernel
theorem dX5_count_79 : decode cX5_count 79 = .ok (.ireturn, 1) := by decide +kernel
theorem dX5_count_80 : decode cX5_count 80 = .ok (.aload_n 0, 1) := by decide +kernel
theorem dX5_count_81 : decode cX5_count 81 = .ok (.getfield 10, 3) := by decide +kernel
theorem dX5_count_84 : decode cX5_count 84 = .ok (.invokevirtual 90, 3) := by decide +kernel
theorem dX5_count_87 : decode cX5_count 87 = .ok (.ireturn, 1) := by decide +kernel
theorem dX5_count_88 : decode cX5_count 88 = .ok (.aload_n 0, 1) := by decide +kernel
theorem dX5_count_89 : decode cX5_count 89 = .ok (.getfield 10, 3) := by decide +kernel
theorem dX5_count_92 : decode cX5_count 92 = .ok (.invokevirtual 165, 3) := by decide +kernel
theorem dX5_count_95 : decode cX5_count 95 = .ok (.aload_n 0, 1) := by decide +kernel
theorem dX5_count_96 : decode cX5_count 96 = .ok (.getfield 10, 3) := by decide +kernel
theorem dX5_count_99 : decode cX5_count 99 = .ok (.getfield 48, 3) := by decide +kernel
theorem dX5_count_102 : decode cX5_count 102 = .ok (.invokestatic 168, 3) := by decide +kernel
theorem dX5_count_105 : decode cX5_count 105 = .ok (.ireturn, 1) := by decide +kernel
theorem dX5_count_106 : decode cX5_count 106 = .ok (.aload_n 0, 1) := by decide +kernel
theorem dX5_count_107 : decode cX5_count 107 = .ok (.getfield 10, 3) := by decide +kernel
theorem dX5_count_110 : decode cX5_count 110 = .ok (.getfield 172, 3) := by decide +kernel
theorem dX5_count_113 : decode cX5_count 113 = .ok (.ireturn, 1) := by decide +kernel
theorem dX5_count_114 : decode cX5_count 114 = .ok (.aload_n 0, 1) := by decide +kernel
theorem dX5_count_115 : decode cX5_count 115 = .ok (.getfield 10, 3) := by decide +kernel
theorem dX5_count_118 : decode cX5_count 118 = .ok (.getfield 175, 3) := by decide +kernel
theorem dX5_count_121 : decode cX5_count 121 = .ok (.ireturn, 1) := by decide +kernel
theorem dX5_count_122 : decode cX5_count 122 = .ok (.aload_n 0, 1) := by decide +kernel
theorem dX5_count_123 : decode cX5_count 123 = .ok (.getfield 10, 3) := by decide +kernel
theorem dX5_count_126 : decode cX5_count 126 = .ok (.invokevirtual 178, 3) := by decide +kernel
theorem dX5_count_129 : decode cX5_count 129 = .ok (.ireturn, 1) := by decide +kernel
theorem dX5_count_130 : decode cX5_count 130 = .ok (.aload_n 0, 1) := by decide +kernel
theorem dX5_count_131 : decode cX5_count 131 = .ok (.getfield 36, 3) := by decide +kernel
theorem dX5_count_134 : decode cX5_count 134 = .ok (.getfield 135, 3) := by decide +kernel
theorem dX5_count_137 : decode cX5_count 137 = .ok (.ireturn, 1) := by decide +kernel
theorem dX5_count_138 : decode cX5_count 138 = .ok (.aload_n 0, 1) := by decide +kernel
theorem dX5_count_139 : decode cX5_count 139 = .ok (.getfield 22, 3) := by decide +kernel
theorem dX5_count_142 : decode cX5_count 142 = .ok (.getfield 181, 3) := by decide +kernel
theorem dX5_count_145 : decode cX5_count 145 = .ok (.ireturn, 1) := by decide +kernel
theorem dX5_count_146 : decode cX5_count 146 = .ok (.bipush (-2), 2) := by decide +kernel
theorem dX5_count_148 : decode cX5_count 148 = .ok (.ireturn, 1) := by decide +kernel
set_option maxRecDepth 20000 in
theorem ggX5_ifMade_X5_isOutside : GoodIn wsX5_ifMade wsX5_isOutside := goodIn_r _ [14] (by decide +kernel) (by decide +kernel)
set_option maxRecDepth 20000 in
theorem gX5_ifMade_X5_isOutside : GoodIn wsX5_ifMade (va_wsS RX5 40 yX5_isOutside wsX5_isOutside) := goodIn_app (goodIn_of _ (by decide +kernel)) ggX5_ifMade_X5_isOutside
set_option maxRecDepth 20000 in
theorem ggX5_ifMade_X3_takeOver : GoodIn wsX5_ifMade wsX3_takeOver := goodIn_r _ [19, 20, 21, 22, 23, 24, 25, 26, 27, 28, 29, 30, 31, 32, 33, 34, 35, 36, 37, 38, 39, 40, 41, 42, 43, 44, 45, 46, 47, 101, 102, 103, 104, 105, 106, 107, 108, 109, 110, 111, 112, 113, 114, 115, 116, 117, 118] (by decide +kernel) (by decide +kernel)
set_option maxRecDepth 20000 in
theorem gX5_ifMade_X3_takeOver : GoodIn wsX5_ifMade (wsV RX5 184 RX3 yX3_takeOver wsX3_takeOver) := goodIn_app (goodIn_of _ (by decide +kernel)) ggX5_ifMade_X3_takeOver
set_option maxRecDepth 20000 in
theorem ggX5_ifMade_X3_makeOne : GoodIn wsX5_ifMade wsX3_makeOne := goodIn_r _ [51, 20, 28, 52, 8, 5, 9, 26, 53, 54, 55, 56, 18, 57, 58, 59, 60, 61, 62, 63, 21, 64, 65, 66, 67, 68, 27, 30, 29, 69, 31, 70, 71, 72, 73, 74, 75, 76, 77, 78, 79, 80, 35, 81, 37, 38, 82, 42, 83, 84, 85, 86, 45, 47, 46, 43, 87, 88, 89, 90, 91, 92, 93, 94, 101, 102, 103, 104, 105, 106, 107, 108, 109, 110, 111, 112, 113, 114, 115, 116, 117, 118] (by decide +kernel) (by decide +kernel)
set_option maxRecDepth 20000 in
theorem gX5_ifMade_X3_makeOne : GoodIn wsX5_ifMade (wsV RX5 187 RX3 yX3_makeOne wsX3_makeOne) := goodIn_app (goodIn_of _ (by decide +kernel)) ggX5_ifMade_X3_makeOne
set_option maxRecDepth 20000 in
theorem ggX5_ifMade_X3_mixtureAgo : GoodIn wsX5_ifMade wsX3_mixtureAgo := goodIn_r _ [73, 31, 27, 74, 75, 76, 77, 101, 102, 103, 104, 105, 106, 107, 108] (by decide +kernel) (by decide +kernel)
set_option maxRecDepth 20000 in
theorem gX5_ifMade_X3_mixtureAgo : GoodIn wsX5_ifMade (wsV RX5 116 RX3 yX3_mixtureAgo wsX3_mixtureAgo) := goodIn_app (goodIn_of _ (by decide +kernel)) ggX5_ifMade_X3_mixtureAgo
theorem dX5_ifMade_0 : decode cX5_ifMade 0 = .ok (.iload_n 1, 1) := by decide +kernel
theorem dX5_ifMade_1 : decode cX5_ifMade 1 = .ok (.iconst 1, 1) := by decide +kernel
theorem dX5_ifMade_2 : decode cX5_ifMade 2 = .ok (.sipush 2000, 3) := by decide +kernel
theorem dX5_ifMade_5 : decode cX5_ifMade 5 = .ok (.invokestatic 40, 3) := by decide +kernel
theorem dX5_ifMade_8 : decode cX5_ifMade 8 = .ok (.ifCond .ne 12, 3) := by decide +kernel
theorem dX5_ifMade_11 : decode cX5_ifMade 11 = .ok (.iload_n 2, 1) := by decide +kernel
theorem dX5_ifMade_12 : decode cX5_ifMade 12 = .ok (.iconst 0, 1) := by decide +kernel
theorem dX5_ifMade_13 : decode cX5_ifMade 13 = .ok (.iconst 3, 1) := by decide +kernel
theorem dX5_ifMade_14 : decode cX5_ifMade 14 = .ok (.invokestatic 40, 3) := by decide +kernel
theorem dX5_ifMade_17 : decode cX5_ifMade 17 = .ok (.ifCond .eq 6, 3) := by decide +kernel
theorem dX5_ifMade_20 : decode cX5_ifMade 20 = .ok (.bipush (-2), 2) := by decide +kernel
theorem dX5_ifMade_22 : decode cX5_ifMade 22 = .ok (.ireturn, 1) := by decide +kernel
theorem dX5_ifMade_23 : decode cX5_ifMade 23 = .ok (.aload_n 0, 1) := by decide +kernel
theorem dX5_ifMade_24 : decode cX5_ifMade 24 = .ok (.getfield 16, 3) := by decide +kernel
theorem dX5_ifMade_27 : decode cX5_ifMade 27 = .ok (.aload_n 0, 1) := by decide +kernel
theorem dX5_ifMade_28 : decode cX5_ifMade 28 = .ok (.getfield 10, 3) := by decide +kernel
theorem dX5_ifMade_31 : decode cX5_ifMade 31 = .ok (.invokevirtual 184, 3) := by decide +kernel
theorem dX5_ifMade_34 : decode cX5_ifMade 34 = .ok (.iconst 0, 1) := by decide +kernel
theorem dX5_ifMade_35 : decode cX5_ifMade 35 = .ok (.istore_n 3, 1) := by decide +kernel
theorem dX5_ifMade_36 : decode cX5_ifMade 36 = .ok (.sipush 960, 3) := by decide +kernel
theorem dX5_ifMade_39 : decode cX5_ifMade 39 = .ok (.istore 4, 2) := by decide +kernel
theorem dX5_ifMade_41 : decode cX5_ifMade 41 = .ok (.iconst 0, 1) := by decide +kernel
theorem dX5_ifMade_42 : decode cX5_ifMade 42 = .ok (.istore 5, 2) := by decide +kernel
theorem dX5_ifMade_44 : decode cX5_ifMade 44 = .ok (.iload 5, 2) := by decide +kernel
theorem dX5_ifMade_46 : decode cX5_ifMade 46 = .ok (.iload_n 1, 1) := by decide +kernel
theorem dX5_ifMade_47 : decode cX5_ifMade 47 = .ok (.if_icmp .ge 44, 3) := by decide +kernel
theorem dX5_ifMade_50 : decode cX5_ifMade 50 = .ok (.aload_n 0, 1) := by decide +kernel
theorem dX5_ifMade_51 : decode cX5_ifMade 51 = .ok (.getfield 16, 3) := by decide +kernel
theorem dX5_ifMade_54 : decode cX5_ifMade 54 = .ok (.invokevirtual 187, 3) := by decide +kernel
theorem dX5_ifMade_57 : decode cX5_ifMade 57 = .ok (.iload_n 3, 1) := by decide +kernel
theorem dX5_ifMade_58 : decode cX5_ifMade 58 = .ok (.aload_n 0, 1) := by decide +kernel
theorem dX5_ifMade_59 : decode cX5_ifMade 59 = .ok (.getfield 16, 3) := by decide +kernel
theorem dX5_ifMade_62 : decode cX5_ifMade 62 = .ok (.iconst 0, 1) := by decide +kernel
theorem dX5_ifMade_63 : decode cX5_ifMade 63 = .ok (.invokevirtual 116, 3) := by decide +kernel
theorem dX5_ifMade_66 : decode cX5_ifMade 66 = .ok (.invokestatic 190, 3) := by decide +kernel
theorem dX5_ifMade_69 : decode cX5_ifMade 69 = .ok (.istore_n 3, 1) := by decide +kernel
theorem dX5_ifMade_70 : decode cX5_ifMade 70 = .ok (.iload 4, 2) := by decide +kernel
theorem dX5_ifMade_72 : decode cX5_ifMade 72 = .ok (.aload_n 0, 1) := by decide +kernel
theorem dX5_ifMade_73 : decode cX5_ifMade 73 = .ok (.getfield 16, 3) := by decide +kernel
theorem dX5_ifMade_76 : decode cX5_ifMade 76 = .ok (.iconst 0, 1) := by decide +kernel
theorem dX5_ifMade_77 : decode cX5_ifMade 77 = .ok (.invokevirtual 116, 3) := by decide +kernel
theorem dX5_ifMade_80 : decode cX5_ifMade 80 = .ok (.invokestatic 168, 3) := by decide +kernel
theorem dX5_ifMade_83 : decode cX5_ifMade 83 = .ok (.istore 4, 2) := by decide +kernel
theorem dX5_ifMade_85 : decode cX5_ifMade 85 = .ok (.iinc 5 1, 3) := by decide +kernel
theorem dX5_ifMade_88 : decode cX5_ifMade 88 = .ok (.goto (-44), 3) := by decide +kernel
theorem dX5_ifMade_91 : decode cX5_ifMade 91 = .ok (.iload_n 2, 1) := by decide +kernel
theorem dX5_ifMade_92 : decode cX5_ifMade 92 = .ok (.tableswitch 49 0 2 #[28, 30, 33], 28) := by decide +kernel
theorem dX5_ifMade_120 : decode cX5_ifMade 120 = .ok (.iload_n 3, 1) := by decide +kernel
theorem dX5_ifMade_121 : decode cX5_ifMade 121 = .ok (.ireturn, 1) := by decide +kernel
theorem dX5_ifMade_122 : decode cX5_ifMade 122 = .ok (.iload 4, 2) := by decide +kernel
theorem dX5_ifMade_124 : decode cX5_ifMade 124 = .ok (.ireturn, 1) := by decide +kernel
theorem dX5_ifMade_125 : decode cX5_ifMade 125 = .ok (.aload_n 0, 1) := by decide +kernel
theorem dX5_ifMade_126 : decode cX5_ifMade 126 = .ok (.getfield 16, 3) := by decide +kernel
theorem dX5_ifMade_129 : decode cX5_ifMade 129 = .ok (.getfield 162, 3) := by decide +kernel
theorem dX5_ifMade_132 : decode cX5_ifMade 132 = .ok (.aload_n 0, 1) := by decide +kernel
theorem dX5_ifMade_133 : decode cX5_ifMade 133 = .ok (.getfield 10, 3) := by decide +kernel
theorem dX5_ifMade_136 : decode cX5_ifMade 136 = .ok (.getfield 162, 3) := by decide +kernel
theorem dX5_ifMade_139 : decode cX5_ifMade 139 = .ok (.isub, 1) := by decide +kernel
theorem dX5_ifMade_140 : decode cX5_ifMade 140 = .ok (.ireturn, 1) := by decide +kernel
theorem dX5_ifMade_141 : decode cX5_ifMade 141 = .ok (.aload_n 0, 1) := by decide +kernel
theorem dX5_ifMade_142 : decode cX5_ifMade 142 = .ok (.getfield 16, 3) := by decide +kernel
theorem dX5_ifMade_145 : decode cX5_ifMade 145 = .ok (.iconst 0, 1) := by decide +kernel
theorem dX5_ifMade_146 : decode cX5_ifMade 146 = .ok (.invokevirtual 116, 3) := by decide +kernel
theorem dX5_ifMade_149 : decode cX5_ifMade 149 = .ok (.ireturn, 1) := by decide +kernel
set_option maxRecDepth 20000 in
theorem ggX5_untilClip_X3_takeOver : GoodIn wsX5_untilClip wsX3_takeOver := goodIn_r _ [8, 9, 10, 11, 12, 13, 14, 15, 16, 17, 18, 19, 20, 21, 22, 23, 24, 25, 26, 27, 28, 29, 30, 31, 32, 33, 34, 35, 36, 92, 93, 94, 95, 96, 97, 98, 99, 100, 101, 102, 103, 104, 105, 106, 107, 108, 109] (by decide +kernel) (by decide +kernel)
set_option maxRecDepth 20000 in
theorem gX5_untilClip_X3_takeOver : GoodIn wsX5_untilClip (wsV RX5 184 RX3 yX3_takeOver wsX3_takeOver) := goodIn_app (goodIn_of _ (by decide +kernel)) ggX5_untilClip_X3_takeOver
set_option maxRecDepth 20000 in
theorem ggX5_untilClip_X3_makeOne : GoodIn wsX5_untilClip wsX3_makeOne := goodIn_r _ [40, 9, 17, 41, 42, 43, 44, 15, 45, 46, 47, 48, 7, 49, 50, 51, 52, 53, 54, 55, 10, 56, 57, 58, 59, 60, 16, 19, 18, 61, 20, 62, 63, 64, 65, 66, 67, 68, 69, 70, 71, 72, 24, 73, 26, 27, 74, 31, 75, 76, 77, 78, 34, 36, 35, 32, 79, 80, 81, 82, 83, 84, 85, 86, 92, 93, 94, 95, 96, 97, 98, 99, 100, 101, 102, 103, 104, 105, 106, 107, 108, 109] (by decide +kernel) (by decide +kernel)
set_option maxRecDepth 20000 in
theorem gX5_untilClip_X3_makeOne : GoodIn wsX5_untilClip (wsV RX5 187 RX3 yX3_makeOne wsX3_makeOne) := goodIn_app (goodIn_of _ (by decide +kernel)) ggX5_untilClip_X3_makeOne
theorem dX5_untilClip_0 : decode cX5_untilClip 0 = .ok (.aload_n 0, 1) := by decide +kernel
theorem dX5_untilClip_1 : decode cX5_untilClip 1 = .ok (.getfield 16, 3) := by decide +kernel
theorem dX5_untilClip_4 : decode cX5_untilClip 4 = .ok (.aload_n 0, 1) := by decide +kernel
theorem dX5_untilClip_5 : decode cX5_untilClip 5 = .ok (.getfield 10, 3) := by decide +kernel
theorem dX5_untilClip_8 : decode cX5_untilClip 8 = .ok (.invokevirtual 184, 3) := by decide +kernel
theorem dX5_untilClip_11 : decode cX5_untilClip 11 = .ok (.iconst 1, 1) := by decide +kernel
theorem dX5_untilClip_12 : decode cX5_untilClip 12 = .ok (.istore_n 1, 1) := by decide +kernel
theorem dX5_untilClip_13 : decode cX5_untilClip 13 = .ok (.iload_n 1, 1) := by decide +kernel
theorem dX5_untilClip_14 : decode cX5_untilClip 14 = .ok (.sipush 2000, 3) := by decide +kernel
theorem dX5_untilClip_17 : decode cX5_untilClip 17 = .ok (.if_icmp .gt 35, 3) := by decide +kernel
theorem dX5_untilClip_20 : decode cX5_untilClip 20 = .ok (.aload_n 0, 1) := by decide +kernel
theorem dX5_untilClip_21 : decode cX5_untilClip 21 = .ok (.getfield 16, 3) := by decide +kernel
theorem dX5_untilClip_24 : decode cX5_untilClip 24 = .ok (.invokevirtual 187, 3) := by decide +kernel
theorem dX5_untilClip_27 : decode cX5_untilClip 27 = .ok (.aload_n 0, 1) := by decide +kernel
theorem dX5_untilClip_28 : decode cX5_untilClip 28 = .ok (.getfield 16, 3) := by decide +kernel
theorem dX5_untilClip_31 : decode cX5_untilClip 31 = .ok (.getfield 162, 3) := by decide +kernel
theorem dX5_untilClip_34 : decode cX5_untilClip 34 = .ok (.aload_n 0, 1) := by decide +kernel
theorem dX5_untilClip_35 : decode cX5_untilClip 35 = .ok (.getfield 10, 3) := by decide +kernel
theorem dX5_untilClip_38 : decode cX5_untilClip 38 = .ok (.getfield 162, 3) := by decide +kernel
theorem dX5_untilClip_41 : decode cX5_untilClip 41 = .ok (.if_icmp .le 5, 3) := by decide +kernel
theorem dX5_untilClip_44 : decode cX5_untilClip 44 = .ok (.iload_n 1, 1) := by decide +kernel
theorem dX5_untilClip_45 : decode cX5_untilClip 45 = .ok (.ireturn, 1) := by decide +kernel
theorem dX5_untilClip_46 : decode cX5_untilClip 46 = .ok (.iinc 1 1, 3) := by decide +kernel
theorem dX5_untilClip_49 : decode cX5_untilClip 49 = .ok (.goto (-36), 3) := by decide +kernel
theorem dX5_untilClip_52 : decode cX5_untilClip 52 = .ok (.bipush (-6), 2) := by decide +kernel
theorem dX5_untilClip_54 : decode cX5_untilClip 54 = .ok (.ireturn, 1) := by decide +kernel
set_option maxRecDepth 20000 in
theorem ggX5_untilRound_X5_isNoWheel : GoodIn wsX5_untilRound wsX5_isNoWheel := goodIn_r _ [7, 8, 9, 6, 10] (by decide +kernel) (by decide +kernel)
set_option maxRecDepth 20000 in
theorem gX5_untilRound_X5_isNoWheel : GoodIn wsX5_untilRound (va_wsS RX5 63 yX5_isNoWheel wsX5_isNoWheel) := goodIn_app (goodIn_of _ (by decide +kernel)) ggX5_untilRound_X5_isNoWheel
set_option maxRecDepth 20000 in
theorem ggX5_untilRound_X3_takeOver : GoodIn wsX5_untilRound wsX3_takeOver := goodIn_r _ [15, 16, 17, 18, 19, 20, 21, 22, 23, 24, 25, 26, 27, 28, 29, 30, 31, 32, 33, 34, 35, 36, 37, 38, 39, 40, 41, 42, 43, 72, 73, 74, 75, 76, 77, 78, 79, 80, 81, 82, 83, 84, 85, 86, 87, 88, 89] (by decide +kernel) (by decide +kernel)
set_option maxRecDepth 20000 in
theorem gX5_untilRound_X3_takeOver : GoodIn wsX5_untilRound (wsV RX5 184 RX3 yX3_takeOver wsX3_takeOver) := goodIn_app (goodIn_of _ (by decide +kernel)) ggX5_untilRound_X3_takeOver
set_option maxRecDepth 20000 in
theorem ggX5_untilRound_X4_goRound : GoodIn wsX5_untilRound wsX4_goRound := goodIn_r _ [47, 38, 48, 33, 34, 49, 50, 51, 52, 31, 53, 54, 55, 56, 57, 58, 41, 43, 42, 39, 59, 60, 61, 62, 63, 64, 65, 66, 80, 81, 82, 83, 84, 85, 86, 87, 88, 89] (by decide +kernel) (by decide +kernel)
set_option maxRecDepth 20000 in
theorem gX5_untilRound_X4_goRound : GoodIn wsX5_untilRound (wsV RX5 195 RX4 yX4_goRound wsX4_goRound) := goodIn_app (goodIn_of _ (by decide +kernel)) ggX5_untilRound_X4_goRound
theorem dX5_untilRound_0 : decode cX5_untilRound 0 = .ok (.iload_n 1, 1) := by decide +kernel
theorem dX5_untilRound_1 : decode cX5_untilRound 1 = .ok (.invokestatic 63, 3) := by decide +kernel
theorem dX5_untilRound_4 : decode cX5_untilRound 4 = .ok (.ifCond .eq 5, 3) := by decide +kernel
theorem dX5_untilRound_7 : decode cX5_untilRound 7 = .ok (.iconst (-1), 1) := by decide +kernel
theorem dX5_untilRound_8 : decode cX5_untilRound 8 = .ok (.ireturn, 1) := by decide +kernel
theorem dX5_untilRound_9 : decode cX5_untilRound 9 = .ok (.aload_n 0, 1) := by decide +kernel
theorem dX5_untilRound_10 : decode cX5_untilRound 10 = .ok (.getfield 16, 3) := by decide +kernel
theorem dX5_untilRound_13 : decode cX5_untilRound 13 = .ok (.aload_n 0, 1) := by decide +kernel
theorem dX5_untilRound_14 : decode cX5_untilRound 14 = .ok (.getfield 10, 3) := by decide +kernel
theorem dX5_untilRound_17 : decode cX5_untilRound 17 = .ok (.invokevirtual 184, 3) := by decide +kernel
theorem dX5_untilRound_20 : decode cX5_untilRound 20 = .ok (.aload_n 0, 1) := by decide +kernel
theorem dX5_untilRound_21 : decode cX5_untilRound 21 = .ok (.getfield 16, 3) := by decide +kernel
theorem dX5_untilRound_24 : decode cX5_untilRound 24 = .ok (.getfield 67, 3) := by decide +kernel
theorem dX5_untilRound_27 : decode cX5_untilRound 27 = .ok (.iload_n 1, 1) := by decide +kernel
theorem dX5_untilRound_28 : decode cX5_untilRound 28 = .ok (.aaload, 1) := by decide +kernel
theorem dX5_untilRound_29 : decode cX5_untilRound 29 = .ok (.invokevirtual 195, 3) := by decide +kernel
theorem dX5_untilRound_32 : decode cX5_untilRound 32 = .ok (.ireturn, 1) := by decide +kernel
set_option maxRecDepth 20000 in
theorem ggX5_undo_X0_bringBack : GoodIn wsX5_undo wsX0_bringBack := goodIn_r _ [8, 9, 10, 11, 12, 13, 14, 15, 16, 17, 18, 19, 20, 21, 22, 23, 24, 25, 26, 27, 28, 29, 30, 31, 32, 33, 34, 35, 36, 37, 38, 39, 40, 41, 42, 43, 44, 45, 46, 47, 48, 49, 50, 51, 52, 58, 59, 60, 61, 62, 63, 64, 65, 66, 67, 68, 69, 70, 71, 72, 73, 74, 75, 76, 77, 78] (by decide +kernel) (by decide +kernel)
set_option maxRecDepth 20000 in
theorem gX5_undo_X0_bringBack : GoodIn wsX5_undo (wsV RX5 208 RX0 yX0_bringBack wsX0_bringBack) := goodIn_app (goodIn_of _ (by decide +kernel)) ggX5_undo_X0_bringBack
theorem dX5_undo_0 : decode cX5_undo 0 = .ok (.aload_n 0, 1) := by decide +kernel
theorem dX5_undo_1 : decode cX5_undo 1 = .ok (.getfield 22, 3) := by decide +kernel
theorem dX5_undo_4 : decode cX5_undo 4 = .ok (.getfield 181, 3) := by decide +kernel
theorem dX5_undo_7 : decode cX5_undo 7 = .ok (.ifCond .ne 6, 3) := by decide +kernel
theorem dX5_undo_10 : decode cX5_undo 10 = .ok (.bipush (-5), 2) := by decide +kernel
theorem dX5_undo_12 : decode cX5_undo 12 = .ok (.ireturn, 1) := by decide +kernel
theorem dX5_undo_13 : decode cX5_undo 13 = .ok (.aload_n 0, 1) := by decide +kernel
theorem dX5_undo_14 : decode cX5_undo 14 = .ok (.getfield 22, 3) := by decide +kernel
theorem dX5_undo_17 : decode cX5_undo 17 = .ok (.aload_n 0, 1) := by decide +kernel
theorem dX5_undo_18 : decode cX5_undo 18 = .ok (.getfield 10, 3) := by decide +kernel
theorem dX5_undo_21 : decode cX5_undo 21 = .ok (.invokevirtual 208, 3) := by decide +kernel
theorem dX5_undo_24 : decode cX5_undo 24 = .ok (.aload_n 0, 1) := by decide +kernel
theorem dX5_undo_25 : decode cX5_undo 25 = .ok (.getfield 22, 3) := by decide +kernel
theorem dX5_undo_28 : decode cX5_undo 28 = .ok (.getfield 181, 3) := by decide +kernel
theorem dX5_undo_31 : decode cX5_undo 31 = .ok (.ireturn, 1) := by decide +kernel
set_option maxRecDepth 20000 in
theorem ggX5_save_X5_isOutside : GoodIn wsX5_save wsX5_isOutside := goodIn_r _ [9] (by decide +kernel) (by decide +kernel)
set_option maxRecDepth 20000 in
theorem gX5_save_X5_isOutside : GoodIn wsX5_save (va_wsS RX5 40 yX5_isOutside wsX5_isOutside) := goodIn_app (goodIn_of _ (by decide +kernel)) ggX5_save_X5_isOutside
set_option maxRecDepth 20000 in
theorem ggX5_save_X3_takeOver : GoodIn wsX5_save wsX3_takeOver := goodIn_r _ [14, 15, 16, 17, 18, 19, 20, 21, 22, 23, 24, 25, 26, 27, 28, 29, 30, 31, 32, 33, 34, 35, 36, 37, 38, 39, 40, 41, 42, 50, 51, 52, 53, 54, 55, 56, 57, 58, 59, 60, 61, 62, 63, 64, 65, 66, 67] (by decide +kernel) (by decide +kernel)
set_option maxRecDepth 20000 in
theorem gX5_save_X3_takeOver : GoodIn wsX5_save (wsV RX5 184 RX3 yX3_takeOver wsX3_takeOver) := goodIn_app (goodIn_of _ (by decide +kernel)) ggX5_save_X3_takeOver
theorem dX5_save_0 : decode cX5_save 0 = .ok (.iload_n 1, 1) := by decide +kernel
theorem dX5_save_1 : decode cX5_save 1 = .ok (.iconst 0, 1) := by decide +kernel
theorem dX5_save_2 : decode cX5_save 2 = .ok (.iconst 1, 1) := by decide +kernel
theorem dX5_save_3 : decode cX5_save 3 = .ok (.invokestatic 40, 3) := by decide +kernel
theorem dX5_save_6 : decode cX5_save 6 = .ok (.ifCond .eq 6, 3) := by decide +kernel
theorem dX5_save_9 : decode cX5_save 9 = .ok (.bipush (-2), 2) := by decide +kernel
theorem dX5_save_11 : decode cX5_save 11 = .ok (.ireturn, 1) := by decide +kernel
theorem dX5_save_12 : decode cX5_save 12 = .ok (.aload_n 0, 1) := by decide +kernel
theorem dX5_save_13 : decode cX5_save 13 = .ok (.getfield 29, 3) := by decide +kernel
theorem dX5_save_16 : decode cX5_save 16 = .ok (.getfield 211, 3) := by decide +kernel
theorem dX5_save_19 : decode cX5_save 19 = .ok (.iload_n 1, 1) := by decide +kernel
theorem dX5_save_20 : decode cX5_save 20 = .ok (.aaload, 1) := by decide +kernel
theorem dX5_save_21 : decode cX5_save 21 = .ok (.aload_n 0, 1) := by decide +kernel
theorem dX5_save_22 : decode cX5_save 22 = .ok (.getfield 10, 3) := by decide +kernel
theorem dX5_save_25 : decode cX5_save 25 = .ok (.invokevirtual 184, 3) := by decide +kernel
theorem dX5_save_28 : decode cX5_save 28 = .ok (.aload_n 0, 1) := by decide +kernel
theorem dX5_save_29 : decode cX5_save 29 = .ok (.getfield 29, 3) := by decide +kernel
theorem dX5_save_32 : decode cX5_save 32 = .ok (.getfield 215, 3) := by decide +kernel
theorem dX5_save_35 : decode cX5_save 35 = .ok (.iload_n 1, 1) := by decide +kernel
theorem dX5_save_36 : decode cX5_save 36 = .ok (.iconst 1, 1) := by decide +kernel
theorem dX5_save_37 : decode cX5_save 37 = .ok (.bastore, 1) := by decide +kernel
theorem dX5_save_38 : decode cX5_save 38 = .ok (.aload_n 0, 1) := by decide +kernel
theorem dX5_save_39 : decode cX5_save 39 = .ok (.getfield 10, 3) := by decide +kernel
theorem dX5_save_42 : decode cX5_save 42 = .ok (.getfield 154, 3) := by decide +kernel
theorem dX5_save_45 : decode cX5_save 45 = .ok (.ireturn, 1) := by decide +kernel
set_option maxRecDepth 20000 in
theorem ggX5_restore_X5_isOutside : GoodIn wsX5_restore wsX5_isOutside := goodIn_r _ [10] (by decide +kernel) (by decide +kernel)
set_option maxRecDepth 20000 in
theorem gX5_restore_X5_isOutside : GoodIn wsX5_restore (va_wsS RX5 40 yX5_isOutside wsX5_isOutside) := goodIn_app (goodIn_of _ (by decide +kernel)) ggX5_restore_X5_isOutside
set_option maxRecDepth 20000 in
theorem ggX5_restore_X0_keep : GoodIn wsX5_restore wsX0_keep := goodIn_r _ [15, 16, 17, 18, 19, 20, 21, 22, 23, 24, 25, 26, 27, 28, 29, 30, 31, 32, 33, 34, 35, 36, 37, 38, 39, 40, 41, 42, 43, 44, 45, 46, 47, 48, 49, 50, 51, 52, 53, 54, 55, 56, 57, 58, 59, 76, 77, 78, 68, 69, 70, 71, 72, 73, 74, 75, 79, 80, 81, 82, 83, 84, 85, 86, 87, 88] (by decide +kernel) (by decide +kernel)
set_option maxRecDepth 20000 in
theorem gX5_restore_X0_keep : GoodIn wsX5_restore (wsV RX5 44 RX0 yX0_keep wsX0_keep) := goodIn_app (goodIn_of _ (by decide +kernel)) ggX5_restore_X0_keep
set_option maxRecDepth 20000 in
theorem ggX5_restore_X3_takeOver : GoodIn wsX5_restore wsX3_takeOver := goodIn_r _ [31, 32, 33, 34, 35, 36, 37, 38, 39, 40, 41, 42, 43, 44, 45, 46, 47, 48, 49, 50, 51, 52, 53, 54, 55, 56, 57, 58, 59, 68, 69, 70, 71, 72, 73, 74, 75, 79, 80, 81, 82, 83, 84, 85, 86, 87, 88] (by decide +kernel) (by decide +kernel)
set_option maxRecDepth 20000 in
theorem gX5_restore_X3_takeOver : GoodIn wsX5_restore (wsV RX5 184 RX3 yX3_takeOver wsX3_takeOver) := goodIn_app (goodIn_of _ (by decide +kernel)) ggX5_restore_X3_takeOver
theorem dX5_restore_0 : decode cX5_restore 0 = .ok (.iload_n 1, 1) := by decide +kernel
theorem dX5_restore_1 : decode cX5_restore 1 = .ok (.iconst 0, 1) := by decide +kernel
theorem dX5_restore_2 : decode cX5_restore 2 = .ok (.iconst 1, 1) := by decide +kernel
theorem dX5_restore_3 : decode cX5_restore 3 = .ok (.invokestatic 40, 3) := by decide +kernel
theorem dX5_restore_6 : decode cX5_restore 6 = .ok (.ifCond .eq 6, 3) := by decide +kernel
theorem dX5_restore_9 : decode cX5_restore 9 = .ok (.bipush (-2), 2) := by decide +kernel
theorem dX5_restore_11 : decode cX5_restore 11 = .ok (.ireturn, 1) := by decide +kernel
theorem dX5_restore_12 : decode cX5_restore 12 = .ok (.aload_n 0, 1) := by decide +kernel
theorem dX5_restore_13 : decode cX5_restore 13 = .ok (.getfield 29, 3) := by decide +kernel
theorem dX5_restore_16 : decode cX5_restore 16 = .ok (.getfield 215, 3) := by decide +kernel
theorem dX5_restore_19 : decode cX5_restore 19 = .ok (.iload_n 1, 1) := by decide +kernel
theorem dX5_restore_20 : decode cX5_restore 20 = .ok (.baload, 1) := by decide +kernel
theorem dX5_restore_21 : decode cX5_restore 21 = .ok (.ifCond .ne 6, 3) := by decide +kernel
theorem dX5_restore_24 : decode cX5_restore 24 = .ok (.bipush (-5), 2) := by decide +kernel
theorem dX5_restore_26 : decode cX5_restore 26 = .ok (.ireturn, 1) := by decide +kernel
theorem dX5_restore_27 : decode cX5_restore 27 = .ok (.aload_n 0, 1) := by decide +kernel
theorem dX5_restore_28 : decode cX5_restore 28 = .ok (.getfield 22, 3) := by decide +kernel
theorem dX5_restore_31 : decode cX5_restore 31 = .ok (.aload_n 0, 1) := by decide +kernel
theorem dX5_restore_32 : decode cX5_restore 32 = .ok (.getfield 10, 3) := by decide +kernel
theorem dX5_restore_35 : decode cX5_restore 35 = .ok (.invokevirtual 44, 3) := by decide +kernel
theorem dX5_restore_38 : decode cX5_restore 38 = .ok (.aload_n 0, 1) := by decide +kernel
theorem dX5_restore_39 : decode cX5_restore 39 = .ok (.getfield 10, 3) := by decide +kernel
theorem dX5_restore_42 : decode cX5_restore 42 = .ok (.aload_n 0, 1) := by decide +kernel
theorem dX5_restore_43 : decode cX5_restore 43 = .ok (.getfield 29, 3) := by decide +kernel
theorem dX5_restore_46 : decode cX5_restore 46 = .ok (.getfield 211, 3) := by decide +kernel
theorem dX5_restore_49 : decode cX5_restore 49 = .ok (.iload_n 1, 1) := by decide +kernel
theorem dX5_restore_50 : decode cX5_restore 50 = .ok (.aaload, 1) := by decide +kernel
theorem dX5_restore_51 : decode cX5_restore 51 = .ok (.invokevirtual 184, 3) := by decide +kernel
theorem dX5_restore_54 : decode cX5_restore 54 = .ok (.aload_n 0, 1) := by decide +kernel
theorem dX5_restore_55 : decode cX5_restore 55 = .ok (.getfield 10, 3) := by decide +kernel
theorem dX5_restore_58 : decode cX5_restore 58 = .ok (.getfield 154, 3) := by decide +kernel
theorem dX5_restore_61 : decode cX5_restore 61 = .ok (.ireturn, 1) := by decide +kernel
theorem dX5_isOutside_0 : decode cX5_isOutside 0 = .ok (.iload_n 0, 1) := by decide +kernel
theorem dX5_isOutside_1 : decode cX5_isOutside 1 = .ok (.iload_n 1, 1) := by decide +kernel
theorem dX5_isOutside_2 : decode cX5_isOutside 2 = .ok (.if_icmp .lt 8, 3) := by decide +kernel
theorem dX5_isOutside_5 : decode cX5_isOutside 5 = .ok (.iload_n 0, 1) := by decide +kernel
theorem dX5_isOutside_6 : decode cX5_isOutside 6 = .ok (.iload_n 2, 1) := by decide +kernel
theorem dX5_isOutside_7 : decode cX5_isOutside 7 = .ok (.if_icmp .le 7, 3) := by decide +kernel
theorem dX5_isOutside_10 : decode cX5_isOutside 10 = .ok (.iconst 1, 1) := by decide +kernel
theorem dX5_isOutside_11 : decode cX5_isOutside 11 = .ok (.goto 4, 3) := by decide +kernel
theorem dX5_isOutside_14 : decode cX5_isOutside 14 = .ok (.iconst 0, 1) := by decide +kernel
theorem dX5_isOutside_15 : decode cX5_isOutside 15 = .ok (.ireturn, 1) := by decide +kernel
set_option maxRecDepth 20000 in
theorem ggX5_isNoWheel_X5_isOutside : GoodIn wsX5_isNoWheel wsX5_isOutside := goodIn_r _ [4] (by decide +kernel) (by decide +kernel)
set_option maxRecDepth 20000 in
theorem gX5_isNoWheel_X5_isOutside : GoodIn wsX5_isNoWheel (va_wsS RX5 40 yX5_isOutside wsX5_isOutside) := goodIn_app (goodIn_of _ (by decide +kernel)) ggX5_isNoWheel_X5_isOutside
theorem dX5_isNoWheel_0 : decode cX5_isNoWheel 0 = .ok (.iload_n 0, 1) := by decide +kernel
theorem dX5_isNoWheel_1 : decode cX5_isNoWheel 1 = .ok (.iconst 0, 1) := by decide +kernel
theorem dX5_isNoWheel_2 : decode cX5_isNoWheel 2 = .ok (.iconst 3, 1) := by decide +kernel
theorem dX5_isNoWheel_3 : decode cX5_isNoWheel 3 = .ok (.invokestatic 40, 3) := by decide +kernel
theorem dX5_isNoWheel_6 : decode cX5_isNoWheel 6 = .ok (.ireturn, 1) := by decide +kernel
set_option maxRecDepth 20000 in
theorem ggX5_isNoTable_X5_isOutside : GoodIn wsX5_isNoTable wsX5_isOutside := goodIn_r _ [4] (by decide +kernel) (by decide +kernel)
set_option maxRecDepth 20000 in
theorem gX5_isNoTable_X5_isOutside : GoodIn wsX5_isNoTable (va_wsS RX5 40 yX5_isOutside wsX5_isOutside) := goodIn_app (goodIn_of _ (by decide +kernel)) ggX5_isNoTable_X5_isOutside
theorem dX5_isNoTable_0 : decode cX5_isNoTable 0 = .ok (.iload_n 0, 1) := by decide +kernel
theorem dX5_isNoTable_1 : decode cX5_isNoTable 1 = .ok (.iconst 0, 1) := by decide +kernel
theorem dX5_isNoTable_2 : decode cX5_isNoTable 2 = .ok (.iconst 3, 1) := by decide +kernel
theorem dX5_isNoTable_3 : decode cX5_isNoTable 3 = .ok (.invokestatic 40, 3) := by decide +kernel
theorem dX5_isNoTable_6 : decode cX5_isNoTable 6 = .ok (.ireturn, 1) := by decide +kernel
set_option maxRecDepth 20000 in
theorem ggX5_isNoPlace_X5_isOutside : GoodIn wsX5_isNoPlace wsX5_isOutside := goodIn_r _ [4] (by decide +kernel) (by decide +kernel)
set_option maxRecDepth 20000 in
theorem gX5_isNoPlace_X5_isOutside : GoodIn wsX5_isNoPlace (va_wsS RX5 40 yX5_isOutside wsX5_isOutside) := goodIn_app (goodIn_of _ (by decide +kernel)) ggX5_isNoPlace_X5_isOutside
theorem dX5_isNoPlace_0 : decode cX5_isNoPlace 0 = .ok (.iload_n 0, 1) := by decide +kernel
theorem dX5_isNoPlace_1 : decode cX5_isNoPlace 1 = .ok (.iconst 0, 1) := by decide +kernel
theorem dX5_isNoPlace_2 : decode cX5_isNoPlace 2 = .ok (.bipush 15, 2) := by decide +kernel
theorem dX5_isNoPlace_4 : decode cX5_isNoPlace 4 = .ok (.invokestatic 40, 3) := by decide +kernel
theorem dX5_isNoPlace_7 : decode cX5_isNoPlace 7 = .ok (.ireturn, 1) := by decide +kernel
theorem dJ6_bitCount_0f7a4_0 : decode cJ6_bitCount_0f7a4 0 = .ok (.iload_n 0, 1) := by decide +kernel
theorem dJ6_bitCount_0f7a4_1 : decode cJ6_bitCount_0f7a4 1 = .ok (.iload_n 0, 1) := by decide +kernel
theorem dJ6_bitCount_0f7a4_2 : decode cJ6_bitCount_0f7a4 2 = .ok (.iconst 1, 1) := by decide +kernel
theorem dJ6_bitCount_0f7a4_3 : decode cJ6_bitCount_0f7a4 3 = .ok (.iushr, 1) := by decide +kernel
theorem dJ6_bitCount_0f7a4_4 : decode cJ6_bitCount_0f7a4 4 = .ok (.ldc_w 265, 3) := by decide +kernel
theorem dJ6_bitCount_0f7a4_7 : decode cJ6_bitCount_0f7a4 7 = .ok (.iand, 1) := by decide +kernel
theorem dJ6_bitCount_0f7a4_8 : decode cJ6_bitCount_0f7a4 8 = .ok (.isub, 1) := by decide +kernel
theorem dJ6_bitCount_0f7a4_9 : decode cJ6_bitCount_0f7a4 9 = .ok (.istore_n 0, 1) := by decide +kernel
theorem dJ6_bitCount_0f7a4_10 : decode cJ6_bitCount_0f7a4 10 = .ok (.iload_n 0, 1) := by decide +kernel
theorem dJ6_bitCount_0f7a4_11 : decode cJ6_bitCount_0f7a4 11 = .ok (.ldc_w 266, 3) := by decide +kernel
theorem dJ6_bitCount_0f7a4_14 : decode cJ6_bitCount_0f7a4 14 = .ok (.iand, 1) := by decide +kernel
theorem dJ6_bitCount_0f7a4_15 : decode cJ6_bitCount_0f7a4 15 = .ok (.iload_n 0, 1) := by decide +kernel
theorem dJ6_bitCount_0f7a4_16 : decode cJ6_bitCount_0f7a4 16 = .ok (.iconst 2, 1) := by decide +kernel
theorem dJ6_bitCount_0f7a4_17 : decode cJ6_bitCount_0f7a4 17 = .ok (.iushr, 1) := by decide +kernel
theorem dJ6_bitCount_0f7a4_18 : decode cJ6_bitCount_0f7a4 18 = .ok (.ldc_w 266, 3) := by decide +kernel
theorem dJ6_bitCount_0f7a4_21 : decode cJ6_bitCount_0f7a4 21 = .ok (.iand, 1) := by decide +kernel
theorem dJ6_bitCount_0f7a4_22 : decode cJ6_bitCount_0f7a4 22 = .ok (.iadd, 1) := by decide +kernel
theorem dJ6_bitCount_0f7a4_23 : decode cJ6_bitCount_0f7a4 23 = .ok (.istore_n 0, 1) := by decide +kernel
theorem dJ6_bitCount_0f7a4_24 : decode cJ6_bitCount_0f7a4 24 = .ok (.iload_n 0, 1) := by decide +kernel
theorem dJ6_bitCount_0f7a4_25 : decode cJ6_bitCount_0f7a4 25 = .ok (.iload_n 0, 1) := by decide +kernel
theorem dJ6_bitCount_0f7a4_26 : decode cJ6_bitCount_0f7a4 26 = .ok (.iconst 4, 1) := by decide +kernel
theorem dJ6_bitCount_0f7a4_27 : decode cJ6_bitCount_0f7a4 27 = .ok (.iushr, 1) := by decide +kernel
theorem dJ6_bitCount_0f7a4_28 : decode cJ6_bitCount_0f7a4 28 = .ok (.iadd, 1) := by decide +kernel
theorem dJ6_bitCount_0f7a4_29 : decode cJ6_bitCount_0f7a4 29 = .ok (.ldc_w 267, 3) := by decide +kernel
theorem dJ6_bitCount_0f7a4_32 : decode cJ6_bitCount_0f7a4 32 = .ok (.iand, 1) := by decide +kernel
theorem dJ6_bitCount_0f7a4_33 : decode cJ6_bitCount_0f7a4 33 = .ok (.istore_n 0, 1) := by decide +kernel
theorem dJ6_bitCount_0f7a4_34 : decode cJ6_bitCount_0f7a4 34 = .ok (.iload_n 0, 1) := by decide +kernel
theorem dJ6_bitCount_0f7a4_35 : decode cJ6_bitCount_0f7a4 35 = .ok (.iload_n 0, 1) := by decide +kernel
theorem dJ6_bitCount_0f7a4_36 : decode cJ6_bitCount_0f7a4 36 = .ok (.bipush 8, 2) := by decide +kernel
theorem dJ6_bitCount_0f7a4_38 : decode cJ6_bitCount_0f7a4 38 = .ok (.iushr, 1) := by decide +kernel
theorem dJ6_bitCount_0f7a4_39 : decode cJ6_bitCount_0f7a4 39 = .ok (.iadd, 1) := by decide +kernel
theorem dJ6_bitCount_0f7a4_40 : decode cJ6_bitCount_0f7a4 40 = .ok (.istore_n 0, 1) := by decide +kernel
theorem dJ6_bitCount_0f7a4_41 : decode cJ6_bitCount_0f7a4 41 = .ok (.iload_n 0, 1) := by decide +kernel
theorem dJ6_bitCount_0f7a4_42 : decode cJ6_bitCount_0f7a4 42 = .ok (.iload_n 0, 1) := by decide +kernel
theorem dJ6_bitCount_0f7a4_43 : decode cJ6_bitCount_0f7a4 43 = .ok (.bipush 16, 2) := by decide +kernel
theorem dJ6_bitCount_0f7a4_45 : decode cJ6_bitCount_0f7a4 45 = .ok (.iushr, 1) := by decide +kernel
theorem dJ6_bitCount_0f7a4_46 : decode cJ6_bitCount_0f7a4 46 = .ok (.iadd, 1) := by decide +kernel
theorem dJ6_bitCount_0f7a4_47 : decode cJ6_bitCount_0f7a4 47 = .ok (.istore_n 0, 1) := by decide +kernel
theorem dJ6_bitCount_0f7a4_48 : decode cJ6_bitCount_0f7a4 48 = .ok (.iload_n 0, 1) := by decide +kernel
theorem dJ6_bitCount_0f7a4_49 : decode cJ6_bitCount_0f7a4 49 = .ok (.bipush 63, 2) := by decide +kernel
theorem dJ6_bitCount_0f7a4_51 : decode cJ6_bitCount_0f7a4 51 = .ok (.iand, 1) := by decide +kernel
theorem dJ6_bitCount_0f7a4_52 : decode cJ6_bitCount_0f7a4 52 = .ok (.ireturn, 1) := by decide +kernel
theorem dJ9_floorMod_7cf53_0 : decode cJ9_floorMod_7cf53 0 = .ok (.iload_n 0, 1) := by decide +kernel
theorem dJ9_floorMod_7cf53_1 : decode cJ9_floorMod_7cf53 1 = .ok (.iload_n 1, 1) := by decide +kernel
theorem dJ9_floorMod_7cf53_2 : decode cJ9_floorMod_7cf53 2 = .ok (.irem, 1) := by decide +kernel
theorem dJ9_floorMod_7cf53_3 : decode cJ9_floorMod_7cf53 3 = .ok (.istore_n 2, 1) := by decide +kernel
theorem dJ9_floorMod_7cf53_4 : decode cJ9_floorMod_7cf53 4 = .ok (.iload_n 0, 1) := by decide +kernel
theorem dJ9_floorMod_7cf53_5 : decode cJ9_floorMod_7cf53 5 = .ok (.iload_n 1, 1) := by decide +kernel
theorem dJ9_floorMod_7cf53_6 : decode cJ9_floorMod_7cf53 6 = .ok (.ixor, 1) := by decide +kernel
theorem dJ9_floorMod_7cf53_7 : decode cJ9_floorMod_7cf53 7 = .ok (.ifCond .ge 11, 3) := by decide +kernel
theorem dJ9_floorMod_7cf53_10 : decode cJ9_floorMod_7cf53 10 = .ok (.iload_n 2, 1) := by decide +kernel
theorem dJ9_floorMod_7cf53_11 : decode cJ9_floorMod_7cf53 11 = .ok (.ifCond .eq 7, 3) := by decide +kernel
theorem dJ9_floorMod_7cf53_14 : decode cJ9_floorMod_7cf53 14 = .ok (.iload_n 2, 1) := by decide +kernel
theorem dJ9_floorMod_7cf53_15 : decode cJ9_floorMod_7cf53 15 = .ok (.iload_n 1, 1) := by decide +kernel
theorem dJ9_floorMod_7cf53_16 : decode cJ9_floorMod_7cf53 16 = .ok (.iadd, 1) := by decide +kernel
theorem dJ9_floorMod_7cf53_17 : decode cJ9_floorMod_7cf53 17 = .ok (.ireturn, 1) := by decide +kernel
theorem dJ9_floorMod_7cf53_18 : decode cJ9_floorMod_7cf53 18 = .ok (.iload_n 2, 1) := by decide +kernel
theorem dJ9_floorMod_7cf53_19 : decode cJ9_floorMod_7cf53 19 = .ok (.ireturn, 1) := by decide +kernel
theorem dJ9_abs_0f7a4_0 : decode cJ9_abs_0f7a4 0 = .ok (.iload_n 0, 1) := by decide +kernel
theorem dJ9_abs_0f7a4_1 : decode cJ9_abs_0f7a4 1 = .ok (.ifCond .ge 8, 3) := by decide +kernel
theorem dJ9_abs_0f7a4_4 : decode cJ9_abs_0f7a4 4 = .ok (.iload_n 0, 1) := by decide +kernel
theorem dJ9_abs_0f7a4_5 : decode cJ9_abs_0f7a4 5 = .ok (.ineg, 1) := by decide +kernel
theorem dJ9_abs_0f7a4_6 : decode cJ9_abs_0f7a4 6 = .ok (.goto 4, 3) := by decide +kernel
theorem dJ9_abs_0f7a4_9 : decode cJ9_abs_0f7a4 9 = .ok (.iload_n 0, 1) := by decide +kernel
theorem dJ9_abs_0f7a4_10 : decode cJ9_abs_0f7a4 10 = .ok (.ireturn, 1) := by decide +kernel
theorem dJ9_max_7cf53_0 : decode cJ9_max_7cf53 0 = .ok (.iload_n 0, 1) := by decide +kernel
theorem dJ9_max_7cf53_1 : decode cJ9_max_7cf53 1 = .ok (.iload_n 1, 1) := by decide +kernel
theorem dJ9_max_7cf53_2 : decode cJ9_max_7cf53 2 = .ok (.if_icmp .lt 7, 3) := by decide +kernel
theorem dJ9_max_7cf53_5 : decode cJ9_max_7cf53 5 = .ok (.iload_n 0, 1) := by decide +kernel
theorem dJ9_max_7cf53_6 : decode cJ9_max_7cf53 6 = .ok (.goto 4, 3) := by decide +kernel
theorem dJ9_max_7cf53_9 : decode cJ9_max_7cf53 9 = .ok (.iload_n 1, 1) := by decide +kernel
theorem dJ9_max_7cf53_10 : decode cJ9_max_7cf53 10 = .ok (.ireturn, 1) := by decide +kernel
theorem dJ9_min_7cf53_0 : decode cJ9_min_7cf53 0 = .ok (.iload_n 0, 1) := by decide +kernel
theorem dJ9_min_7cf53_1 : decode cJ9_min_7cf53 1 = .ok (.iload_n 1, 1) := by decide +kernel
theorem dJ9_min_7cf53_2 : decode cJ9_min_7cf53 2 = .ok (.if_icmp .gt 7, 3) := by decide +kernel
theorem dJ9_min_7cf53_5 : decode cJ9_min_7cf53 5 = .ok (.iload_n 0, 1) := by decide +kernel
theorem dJ9_min_7cf53_6 : decode cJ9_min_7cf53 6 = .ok (.goto 4, 3) := by decide +kernel
theorem dJ9_min_7cf53_9 : decode cJ9_min_7cf53 9 = .ok (.iload_n 1, 1) := by decide +kernel
theorem dJ9_min_7cf53_10 : decode cJ9_min_7cf53 10 = .ok (.ireturn, 1) := by decide +kernel
abbrev vwCl : List vw_C := [(RX0, TX0, 3), (RX1, TX1, 7), (RX2, TX2, 2), (RX3, TX3, 8), (RX4, TX4, 10), (RX5, TX5, 5)]
