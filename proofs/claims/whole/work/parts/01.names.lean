/-! ===== BEGIN words of one list among another's, by their places ===== -/
theorem goodIn_r {big : List Cond} (ws : List Cond) (ps : List Nat) (hp : ws = ps.filterMap (fun i => big[i]?)) (h : ws.all goodWord = true) : GoodIn big ws := by
  intro w hw
  have h1 := List.all_eq_true.mp h w hw
  rw [hp] at hw
  obtain ⟨i, -, hi⟩ := List.mem_filterMap.mp hw
  have hm : w ∈ big := by first | exact List.mem_of_getElem? hi | exact List.getElem?_mem hi
  exact ⟨hm, good_of_word h1⟩
theorem goodIn_app {big a b : List Cond} (ha : GoodIn big a) (hb : GoodIn big b) : GoodIn big (a ++ b) := fun w h => (List.mem_append.mp h).elim (ha w) (hb w)
theorem goodIn_ca {big a b : List Cond} {c : Cond} (ha : GoodIn big (c :: a)) (hb : GoodIn big b) : GoodIn big (c :: (a ++ b)) := fun w h => (List.mem_cons.mp h).elim (fun e => ha w (List.mem_cons.mpr (Or.inl e))) (fun h => (List.mem_append.mp h).elim (fun h => ha w (List.mem_cons.mpr (Or.inr h))) (hb w))
theorem goodIn_sub {big ws : List Cond} (hm : ∀ w ∈ ws, w ∈ big) (h : ws.all goodWord = true) : GoodIn big ws := fun w hw => ⟨hm w hw, good_of_word (List.all_eq_true.mp h w hw)⟩
/-! ===== END ===== -/

/-! ===== BEGIN printed: names, fields, word lists, decode rows ===== -/
def RX0 : String := "PhaseTones$History"
def TX0 : u_T := fun k => match k with
  | 0 => ("PhaseTones$History", "states", "[LPhaseTones$Sound;", true)
  | 1 => ("PhaseTones$History", "recorded", "I", false)
  | _ => ("PhaseTones$History", "kept", "I", false)
def tyX0 : Nat → FieldType := fun k => match k with
  | 0 => .array (.object "PhaseTones$Sound")
  | 1 => .int
  | _ => .int
abbrev wsX00 : List Cond := u_ws RX0 TX0 3
theorem nmX0 : ∀ a, a < 3 → ∀ b, b < 3 → a ≠ b → (TX0 a).2.1 ≠ (TX0 b).2.1 := by decide +kernel
theorem tyX0_ok : ∀ k, k < 3 → parseFieldDescriptor (TX0 k).2.2.1 = some (tyX0 k) := by decide +kernel
abbrev cX0_init : ByteArray := prog_2_method_1_code
def yX0_init : MethodName := ⟨RX0, "<init>", "()V"⟩
abbrev cX0_keep : ByteArray := prog_2_method_2_code
def yX0_keep : MethodName := ⟨RX0, "keep", "(LPhaseTones$Sound;)V"⟩
abbrev cX0_bringBack : ByteArray := prog_2_method_3_code
def yX0_bringBack : MethodName := ⟨RX0, "bringBack", "(LPhaseTones$Sound;)V"⟩
def RX1 : String := "PhaseTones$Pad"
def TX1 : u_T := fun k => match k with
  | 0 => ("PhaseTones$Pad", "text", "[C", true)
  | 1 => ("PhaseTones$Pad", "length", "I", false)
  | 2 => ("PhaseTones$Pad", "at", "I", false)
  | 3 => ("PhaseTones$Pad", "order", "I", false)
  | 4 => ("PhaseTones$Pad", "wheel", "I", false)
  | 5 => ("PhaseTones$Pad", "number", "I", false)
  | _ => ("PhaseTones$Pad", "samples", "I", false)
def tyX1 : Nat → FieldType := fun k => match k with
  | 0 => .array .char
  | 1 => .int
  | 2 => .int
  | 3 => .int
  | 4 => .int
  | 5 => .int
  | _ => .int
abbrev wsX10 : List Cond := u_ws RX1 TX1 7
theorem nmX1 : ∀ a, a < 7 → ∀ b, b < 7 → a ≠ b → (TX1 a).2.1 ≠ (TX1 b).2.1 := by decide +kernel
theorem tyX1_ok : ∀ k, k < 7 → parseFieldDescriptor (TX1 k).2.2.1 = some (tyX1 k) := by decide +kernel
abbrev cX1_init : ByteArray := prog_3_method_1_code
def yX1_init : MethodName := ⟨RX1, "<init>", "()V"⟩
abbrev cX1_append : ByteArray := prog_3_method_2_code
def yX1_append : MethodName := ⟨RX1, "append", "(C)V"⟩
abbrev cX1_findFault : ByteArray := prog_3_method_3_code
def yX1_findFault : MethodName := ⟨RX1, "findFault", "()I"⟩
abbrev cX1_readOrder : ByteArray := prog_3_method_4_code
def yX1_readOrder : MethodName := ⟨RX1, "readOrder", "()Z"⟩
abbrev cX1_readBehindSign : ByteArray := prog_3_method_5_code
def yX1_readBehindSign : MethodName := ⟨RX1, "readBehindSign", "(I)Z"⟩
abbrev cX1_readSamples : ByteArray := prog_3_method_6_code
def yX1_readSamples : MethodName := ⟨RX1, "readSamples", "()Z"⟩
abbrev cX1_readNumber : ByteArray := prog_3_method_7_code
def yX1_readNumber : MethodName := ⟨RX1, "readNumber", "(II)I"⟩
abbrev cX1_pass : ByteArray := prog_3_method_8_code
def yX1_pass : MethodName := ⟨RX1, "pass", "(I)Z"⟩
abbrev cX1_signHere : ByteArray := prog_3_method_9_code
def yX1_signHere : MethodName := ⟨RX1, "signHere", "()I"⟩
abbrev cX1_digitHere : ByteArray := prog_3_method_10_code
def yX1_digitHere : MethodName := ⟨RX1, "digitHere", "()I"⟩
def RX2 : String := "PhaseTones$Slots"
def TX2 : u_T := fun k => match k with
  | 0 => ("PhaseTones$Slots", "sounds", "[LPhaseTones$Sound;", true)
  | _ => ("PhaseTones$Slots", "isSaved", "[Z", true)
def tyX2 : Nat → FieldType := fun k => match k with
  | 0 => .array (.object "PhaseTones$Sound")
  | _ => .array .boolean
abbrev wsX20 : List Cond := u_ws RX2 TX2 2
theorem nmX2 : ∀ a, a < 2 → ∀ b, b < 2 → a ≠ b → (TX2 a).2.1 ≠ (TX2 b).2.1 := by decide +kernel
theorem tyX2_ok : ∀ k, k < 2 → parseFieldDescriptor (TX2 k).2.2.1 = some (tyX2 k) := by decide +kernel
abbrev cX2_init : ByteArray := prog_4_method_1_code
def yX2_init : MethodName := ⟨RX2, "<init>", "()V"⟩
def RX3 : String := "PhaseTones$Sound"
def TX3 : u_T := fun k => match k with
  | 0 => ("PhaseTones$Sound", "limit", "I", false)
  | 1 => ("PhaseTones$Sound", "values", "[I", true)
  | 2 => ("PhaseTones$Sound", "wheels", "[LPhaseTones$Wheel;", true)
  | 3 => ("PhaseTones$Sound", "made", "I", false)
  | 4 => ("PhaseTones$Sound", "clipped", "I", false)
  | 5 => ("PhaseTones$Sound", "sum", "I", false)
  | 6 => ("PhaseTones$Sound", "rises", "I", false)
  | _ => ("PhaseTones$Sound", "latest", "[I", true)
def tyX3 : Nat → FieldType := fun k => match k with
  | 0 => .int
  | 1 => .array .int
  | 2 => .array (.object "PhaseTones$Wheel")
  | 3 => .int
  | 4 => .int
  | 5 => .int
  | 6 => .int
  | _ => .array .int
abbrev wsX30 : List Cond := u_ws RX3 TX3 8
theorem nmX3 : ∀ a, a < 8 → ∀ b, b < 8 → a ≠ b → (TX3 a).2.1 ≠ (TX3 b).2.1 := by decide +kernel
theorem tyX3_ok : ∀ k, k < 8 → parseFieldDescriptor (TX3 k).2.2.1 = some (tyX3 k) := by decide +kernel
abbrev cX3_init : ByteArray := prog_5_method_1_code
def yX3_init : MethodName := ⟨RX3, "<init>", "()V"⟩
abbrev cX3_takeOver : ByteArray := prog_5_method_2_code
def yX3_takeOver : MethodName := ⟨RX3, "takeOver", "(LPhaseTones$Sound;)V"⟩
abbrev cX3_valueGivenBy : ByteArray := prog_5_method_3_code
def yX3_valueGivenBy : MethodName := ⟨RX3, "valueGivenBy", "(LPhaseTones$Wheel;)I"⟩
abbrev cX3_sumOfOn : ByteArray := prog_5_method_4_code
def yX3_sumOfOn : MethodName := ⟨RX3, "sumOfOn", "()I"⟩
abbrev cX3_maskOfOn : ByteArray := prog_5_method_5_code
def yX3_maskOfOn : MethodName := ⟨RX3, "maskOfOn", "()I"⟩
abbrev cX3_samplesOfARoundOfAll : ByteArray := prog_5_method_6_code
def yX3_samplesOfARoundOfAll : MethodName := ⟨RX3, "samplesOfARoundOfAll", "()I"⟩
abbrev cX3_hasNoRoomFor : ByteArray := prog_5_method_7_code
def yX3_hasNoRoomFor : MethodName := ⟨RX3, "hasNoRoomFor", "(I)Z"⟩
abbrev cX3_makeSome : ByteArray := prog_5_method_8_code
def yX3_makeSome : MethodName := ⟨RX3, "makeSome", "(I)Z"⟩
abbrev cX3_makeOne : ByteArray := prog_5_method_9_code
def yX3_makeOne : MethodName := ⟨RX3, "makeOne", "()V"⟩
abbrev cX3_keepMixture : ByteArray := prog_5_method_10_code
def yX3_keepMixture : MethodName := ⟨RX3, "keepMixture", "(I)V"⟩
abbrev cX3_mixtureAgo : ByteArray := prog_5_method_11_code
def yX3_mixtureAgo : MethodName := ⟨RX3, "mixtureAgo", "(I)I"⟩
def RX4 : String := "PhaseTones$Wheel"
def TX4 : u_T := fun k => match k with
  | 0 => ("PhaseTones$Wheel", "phase", "I", false)
  | 1 => ("PhaseTones$Wheel", "step", "I", false)
  | 2 => ("PhaseTones$Wheel", "table", "I", false)
  | 3 => ("PhaseTones$Wheel", "volume", "I", false)
  | 4 => ("PhaseTones$Wheel", "isOn", "Z", false)
  | 5 => ("PhaseTones$Wheel", "sweeps", "I", false)
  | 6 => ("PhaseTones$Wheel", "ends", "[I", true)
  | 7 => ("PhaseTones$Wheel", "lengths", "[I", true)
  | 8 => ("PhaseTones$Wheel", "begin", "I", false)
  | _ => ("PhaseTones$Wheel", "gone", "I", false)
def tyX4 : Nat → FieldType := fun k => match k with
  | 0 => .int
  | 1 => .int
  | 2 => .int
  | 3 => .int
  | 4 => .boolean
  | 5 => .int
  | 6 => .array .int
  | 7 => .array .int
  | 8 => .int
  | _ => .int
abbrev wsX40 : List Cond := u_ws RX4 TX4 10
theorem nmX4 : ∀ a, a < 10 → ∀ b, b < 10 → a ≠ b → (TX4 a).2.1 ≠ (TX4 b).2.1 := by decide +kernel
theorem tyX4_ok : ∀ k, k < 10 → parseFieldDescriptor (TX4 k).2.2.1 = some (tyX4 k) := by decide +kernel
abbrev cX4_init : ByteArray := prog_6_method_1_code
def yX4_init : MethodName := ⟨RX4, "<init>", "()V"⟩
abbrev cX4_takeOver : ByteArray := prog_6_method_2_code
def yX4_takeOver : MethodName := ⟨RX4, "takeOver", "(LPhaseTones$Wheel;)V"⟩
abbrev cX4_changeStep : ByteArray := prog_6_method_3_code
def yX4_changeStep : MethodName := ⟨RX4, "changeStep", "(I)V"⟩
abbrev cX4_addSweep : ByteArray := prog_6_method_4_code
def yX4_addSweep : MethodName := ⟨RX4, "addSweep", "(II)Z"⟩
abbrev cX4_beginSweep : ByteArray := prog_6_method_5_code
def yX4_beginSweep : MethodName := ⟨RX4, "beginSweep", "()V"⟩
abbrev cX4_goOn : ByteArray := prog_6_method_6_code
def yX4_goOn : MethodName := ⟨RX4, "goOn", "()V"⟩
abbrev cX4_goOnSweeping : ByteArray := prog_6_method_7_code
def yX4_goOnSweeping : MethodName := ⟨RX4, "goOnSweeping", "()V"⟩
abbrev cX4_dropFirstSweep : ByteArray := prog_6_method_8_code
def yX4_dropFirstSweep : MethodName := ⟨RX4, "dropFirstSweep", "()V"⟩
abbrev cX4_image : ByteArray := prog_6_method_9_code
def yX4_image : MethodName := ⟨RX4, "image", "()I"⟩
abbrev cX4_samplesOfARound : ByteArray := prog_6_method_10_code
def yX4_samplesOfARound : MethodName := ⟨RX4, "samplesOfARound", "()I"⟩
abbrev cX4_samplesOfSweeps : ByteArray := prog_6_method_11_code
def yX4_samplesOfSweeps : MethodName := ⟨RX4, "samplesOfSweeps", "()I"⟩
abbrev cX4_lastStep : ByteArray := prog_6_method_12_code
def yX4_lastStep : MethodName := ⟨RX4, "lastStep", "()I"⟩
abbrev cX4_goRound : ByteArray := prog_6_method_13_code
def yX4_goRound : MethodName := ⟨RX4, "goRound", "()I"⟩
def RX5 : String := "PhaseTones"
def TX5 : u_T := fun k => match k with
  | 0 => ("PhaseTones", "now", "LPhaseTones$Sound;", true)
  | 1 => ("PhaseTones", "trial", "LPhaseTones$Sound;", true)
  | 2 => ("PhaseTones", "history", "LPhaseTones$History;", true)
  | 3 => ("PhaseTones", "slots", "LPhaseTones$Slots;", true)
  | _ => ("PhaseTones", "pad", "LPhaseTones$Pad;", true)
def tyX5 : Nat → FieldType := fun k => match k with
  | 0 => .object "PhaseTones$Sound"
  | 1 => .object "PhaseTones$Sound"
  | 2 => .object "PhaseTones$History"
  | 3 => .object "PhaseTones$Slots"
  | _ => .object "PhaseTones$Pad"
abbrev wsX50 : List Cond := u_ws RX5 TX5 5
theorem nmX5 : ∀ a, a < 5 → ∀ b, b < 5 → a ≠ b → (TX5 a).2.1 ≠ (TX5 b).2.1 := by decide +kernel
theorem tyX5_ok : ∀ k, k < 5 → parseFieldDescriptor (TX5 k).2.2.1 = some (tyX5 k) := by decide +kernel
abbrev cX5_init : ByteArray := prog_1_method_1_code
def yX5_init : MethodName := ⟨RX5, "<init>", "()V"⟩
abbrev cX5_clip : ByteArray := prog_1_method_2_code
def yX5_clip : MethodName := ⟨RX5, "clip", "(I)I"⟩
abbrev cX5_fill : ByteArray := prog_1_method_3_code
def yX5_fill : MethodName := ⟨RX5, "fill", "(III)I"⟩
abbrev cX5_step : ByteArray := prog_1_method_4_code
def yX5_step : MethodName := ⟨RX5, "step", "(II)I"⟩
abbrev cX5_table : ByteArray := prog_1_method_5_code
def yX5_table : MethodName := ⟨RX5, "table", "(II)I"⟩
abbrev cX5_volume : ByteArray := prog_1_method_6_code
def yX5_volume : MethodName := ⟨RX5, "volume", "(II)I"⟩
abbrev cX5_turn : ByteArray := prog_1_method_7_code
def yX5_turn : MethodName := ⟨RX5, "turn", "(IZ)I"⟩
abbrev cX5_phase : ByteArray := prog_1_method_8_code
def yX5_phase : MethodName := ⟨RX5, "phase", "(II)I"⟩
abbrev cX5_sweep : ByteArray := prog_1_method_9_code
def yX5_sweep : MethodName := ⟨RX5, "sweep", "(III)I"⟩
abbrev cX5_make : ByteArray := prog_1_method_10_code
def yX5_make : MethodName := ⟨RX5, "make", "(I)I"⟩
abbrev cX5_run : ByteArray := prog_1_method_11_code
def yX5_run : MethodName := ⟨RX5, "run", "()I"⟩
abbrev cX5_wheel : ByteArray := prog_1_method_12_code
def yX5_wheel : MethodName := ⟨RX5, "wheel", "(II)I"⟩
abbrev cX5_valueOf : ByteArray := prog_1_method_13_code
def yX5_valueOf : MethodName := ⟨RX5, "valueOf", "(II)I"⟩
abbrev cX5_sample : ByteArray := prog_1_method_14_code
def yX5_sample : MethodName := ⟨RX5, "sample", "(I)I"⟩
abbrev cX5_beat : ByteArray := prog_1_method_15_code
def yX5_beat : MethodName := ⟨RX5, "beat", "(II)I"⟩
abbrev cX5_count : ByteArray := prog_1_method_16_code
def yX5_count : MethodName := ⟨RX5, "count", "(I)I"⟩
abbrev cX5_ifMade : ByteArray := prog_1_method_17_code
def yX5_ifMade : MethodName := ⟨RX5, "ifMade", "(II)I"⟩
abbrev cX5_untilClip : ByteArray := prog_1_method_18_code
def yX5_untilClip : MethodName := ⟨RX5, "untilClip", "()I"⟩
abbrev cX5_bestStep : ByteArray := prog_1_method_19_code
def yX5_bestStep : MethodName := ⟨RX5, "bestStep", "(II)I"⟩
abbrev cX5_untilRound : ByteArray := prog_1_method_20_code
def yX5_untilRound : MethodName := ⟨RX5, "untilRound", "(I)I"⟩
abbrev cX5_put : ByteArray := prog_1_method_21_code
def yX5_put : MethodName := ⟨RX5, "put", "(J)I"⟩
abbrev cX5_wipe : ByteArray := prog_1_method_22_code
def yX5_wipe : MethodName := ⟨RX5, "wipe", "()I"⟩
abbrev cX5_fault : ByteArray := prog_1_method_23_code
def yX5_fault : MethodName := ⟨RX5, "fault", "()I"⟩
abbrev cX5_undo : ByteArray := prog_1_method_24_code
def yX5_undo : MethodName := ⟨RX5, "undo", "()I"⟩
abbrev cX5_save : ByteArray := prog_1_method_25_code
def yX5_save : MethodName := ⟨RX5, "save", "(I)I"⟩
abbrev cX5_restore : ByteArray := prog_1_method_26_code
def yX5_restore : MethodName := ⟨RX5, "restore", "(I)I"⟩
abbrev cX5_isOutside : ByteArray := prog_1_method_27_code
def yX5_isOutside : MethodName := ⟨RX5, "isOutside", "(III)Z"⟩
abbrev cX5_isNoWheel : ByteArray := prog_1_method_28_code
def yX5_isNoWheel : MethodName := ⟨RX5, "isNoWheel", "(I)Z"⟩
abbrev cX5_isNoTable : ByteArray := prog_1_method_29_code
def yX5_isNoTable : MethodName := ⟨RX5, "isNoTable", "(I)Z"⟩
abbrev cX5_isNoPlace : ByteArray := prog_1_method_30_code
def yX5_isNoPlace : MethodName := ⟨RX5, "isNoPlace", "(I)Z"⟩
abbrev cX5_sizeOfText : ByteArray := prog_1_method_31_code
def yX5_sizeOfText : MethodName := ⟨RX5, "sizeOfText", "(J)I"⟩
abbrev cX5_doOrder : ByteArray := prog_1_method_32_code
def yX5_doOrder : MethodName := ⟨RX5, "doOrder", "()Z"⟩
def RX6 : String := "PhaseTonesModel"
def TX6 : u_T := fun k => match k with
  | 0 => ("PhaseTonesModel", "s", "[I", true)
  | 1 => ("PhaseTonesModel", "spare", "[I", true)
  | 2 => ("PhaseTonesModel", "trial", "[I", true)
  | 3 => ("PhaseTonesModel", "before", "[I", true)
  | 4 => ("PhaseTonesModel", "saved", "[I", true)
  | 5 => ("PhaseTonesModel", "isSaved", "[Z", true)
  | 6 => ("PhaseTonesModel", "read", "[I", true)
  | 7 => ("PhaseTonesModel", "pad", "[C", true)
  | 8 => ("PhaseTonesModel", "length", "I", false)
  | 9 => ("PhaseTonesModel", "states", "I", false)
  | 10 => ("PhaseTonesModel", "orders", "I", false)
  | _ => ("PhaseTonesModel", "at", "I", false)
def tyX6 : Nat → FieldType := fun k => match k with
  | 0 => .array .int
  | 1 => .array .int
  | 2 => .array .int
  | 3 => .array .int
  | 4 => .array .int
  | 5 => .array .boolean
  | 6 => .array .int
  | 7 => .array .char
  | 8 => .int
  | 9 => .int
  | 10 => .int
  | _ => .int
abbrev wsX60 : List Cond := u_ws RX6 TX6 12
theorem nmX6 : ∀ a, a < 12 → ∀ b, b < 12 → a ≠ b → (TX6 a).2.1 ≠ (TX6 b).2.1 := by decide +kernel
theorem tyX6_ok : ∀ k, k < 12 → parseFieldDescriptor (TX6 k).2.2.1 = some (tyX6 k) := by decide +kernel
abbrev cX6_init : ByteArray := prog_8_method_1_code
def yX6_init : MethodName := ⟨RX6, "<init>", "()V"⟩
abbrev cX6_in : ByteArray := prog_8_method_2_code
def yX6_in : MethodName := ⟨RX6, "in", "(III)Z"⟩
abbrev cX6_w : ByteArray := prog_8_method_3_code
def yX6_w : MethodName := ⟨RX6, "w", "(I)I"⟩
abbrev cX6_isOne : ByteArray := prog_8_method_4_code
def yX6_isOne : MethodName := ⟨RX6, "isOne", "(I)Z"⟩
abbrev cX6_hold : ByteArray := prog_8_method_5_code
def yX6_hold : MethodName := ⟨RX6, "hold", "()V"⟩
abbrev cX6_recorded : ByteArray := prog_8_method_6_code
def yX6_recorded : MethodName := ⟨RX6, "recorded", "(I)I"⟩
abbrev cX6_keepTrial : ByteArray := prog_8_method_7_code
def yX6_keepTrial : MethodName := ⟨RX6, "keepTrial", "()V"⟩
abbrev cX6_putBack : ByteArray := prog_8_method_8_code
def yX6_putBack : MethodName := ⟨RX6, "putBack", "()V"⟩
abbrev cX6_gives : ByteArray := prog_8_method_9_code
def yX6_gives : MethodName := ⟨RX6, "gives", "(I)I"⟩
abbrev cX6_mixture : ByteArray := prog_8_method_10_code
def yX6_mixture : MethodName := ⟨RX6, "mixture", "()I"⟩
abbrev cX6_goesOn : ByteArray := prog_8_method_11_code
def yX6_goesOn : MethodName := ⟨RX6, "goesOn", "(I)V"⟩
abbrev cX6_makes : ByteArray := prog_8_method_12_code
def yX6_makes : MethodName := ⟨RX6, "makes", "()I"⟩
abbrev cX6_steps : ByteArray := prog_8_method_13_code
def yX6_steps : MethodName := ⟨RX6, "steps", "(II)I"⟩
abbrev cX6_tables : ByteArray := prog_8_method_14_code
def yX6_tables : MethodName := ⟨RX6, "tables", "(II)I"⟩
abbrev cX6_volumes : ByteArray := prog_8_method_15_code
def yX6_volumes : MethodName := ⟨RX6, "volumes", "(II)I"⟩
abbrev cX6_onWheels : ByteArray := prog_8_method_16_code
def yX6_onWheels : MethodName := ⟨RX6, "onWheels", "()I"⟩
abbrev cX6_turns : ByteArray := prog_8_method_17_code
def yX6_turns : MethodName := ⟨RX6, "turns", "(II)I"⟩
abbrev cX6_sweeps : ByteArray := prog_8_method_18_code
def yX6_sweeps : MethodName := ⟨RX6, "sweeps", "(III)I"⟩
abbrev cX6_makesAll : ByteArray := prog_8_method_19_code
def yX6_makesAll : MethodName := ⟨RX6, "makesAll", "(I)I"⟩
abbrev cX6_clip : ByteArray := prog_8_method_20_code
def yX6_clip : MethodName := ⟨RX6, "clip", "(I)I"⟩
abbrev cX6_fill : ByteArray := prog_8_method_21_code
def yX6_fill : MethodName := ⟨RX6, "fill", "(III)I"⟩
abbrev cX6_step : ByteArray := prog_8_method_22_code
def yX6_step : MethodName := ⟨RX6, "step", "(II)I"⟩
abbrev cX6_table : ByteArray := prog_8_method_23_code
def yX6_table : MethodName := ⟨RX6, "table", "(II)I"⟩
abbrev cX6_volume : ByteArray := prog_8_method_24_code
def yX6_volume : MethodName := ⟨RX6, "volume", "(II)I"⟩
abbrev cX6_turn : ByteArray := prog_8_method_25_code
def yX6_turn : MethodName := ⟨RX6, "turn", "(IZ)I"⟩
abbrev cX6_phase : ByteArray := prog_8_method_26_code
def yX6_phase : MethodName := ⟨RX6, "phase", "(II)I"⟩
abbrev cX6_sweep : ByteArray := prog_8_method_27_code
def yX6_sweep : MethodName := ⟨RX6, "sweep", "(III)I"⟩
abbrev cX6_make : ByteArray := prog_8_method_28_code
def yX6_make : MethodName := ⟨RX6, "make", "(I)I"⟩
abbrev cX6_isSign : ByteArray := prog_8_method_29_code
def yX6_isSign : MethodName := ⟨RX6, "isSign", "(CC)Z"⟩
abbrev cX6_accepts : ByteArray := prog_8_method_30_code
def yX6_accepts : MethodName := ⟨RX6, "accepts", "(C)Z"⟩
abbrev cX6_number : ByteArray := prog_8_method_31_code
def yX6_number : MethodName := ⟨RX6, "number", "(III)Z"⟩
abbrev cX6_digit : ByteArray := prog_8_method_32_code
def yX6_digit : MethodName := ⟨RX6, "digit", "(I)Z"⟩
abbrev cX6_readsRest : ByteArray := prog_8_method_33_code
def yX6_readsRest : MethodName := ⟨RX6, "readsRest", "()Z"⟩
abbrev cX6_readsOrder : ByteArray := prog_8_method_34_code
def yX6_readsOrder : MethodName := ⟨RX6, "readsOrder", "()Z"⟩
abbrev cX6_faultOf : ByteArray := prog_8_method_35_code
def yX6_faultOf : MethodName := ⟨RX6, "faultOf", "()I"⟩
abbrev cX6_does : ByteArray := prog_8_method_36_code
def yX6_does : MethodName := ⟨RX6, "does", "(I)I"⟩
abbrev cX6_run : ByteArray := prog_8_method_37_code
def yX6_run : MethodName := ⟨RX6, "run", "()I"⟩
abbrev cX6_image : ByteArray := prog_8_method_38_code
def yX6_image : MethodName := ⟨RX6, "image", "(I)I"⟩
abbrev cX6_around : ByteArray := prog_8_method_39_code
def yX6_around : MethodName := ⟨RX6, "around", "(I)I"⟩
abbrev cX6_sweepsTake : ByteArray := prog_8_method_40_code
def yX6_sweepsTake : MethodName := ⟨RX6, "sweepsTake", "(I)I"⟩
abbrev cX6_wheel : ByteArray := prog_8_method_41_code
def yX6_wheel : MethodName := ⟨RX6, "wheel", "(II)I"⟩
abbrev cX6_valueOf : ByteArray := prog_8_method_42_code
def yX6_valueOf : MethodName := ⟨RX6, "valueOf", "(II)I"⟩
abbrev cX6_sample : ByteArray := prog_8_method_43_code
def yX6_sample : MethodName := ⟨RX6, "sample", "(I)I"⟩
abbrev cX6_beat : ByteArray := prog_8_method_44_code
def yX6_beat : MethodName := ⟨RX6, "beat", "(II)I"⟩
abbrev cX6_together : ByteArray := prog_8_method_45_code
def yX6_together : MethodName := ⟨RX6, "together", "()I"⟩
abbrev cX6_count : ByteArray := prog_8_method_46_code
def yX6_count : MethodName := ⟨RX6, "count", "(I)I"⟩
abbrev cX6_ifMade : ByteArray := prog_8_method_47_code
def yX6_ifMade : MethodName := ⟨RX6, "ifMade", "(II)I"⟩
abbrev cX6_untilClip : ByteArray := prog_8_method_48_code
def yX6_untilClip : MethodName := ⟨RX6, "untilClip", "()I"⟩
abbrev cX6_bestStep : ByteArray := prog_8_method_49_code
def yX6_bestStep : MethodName := ⟨RX6, "bestStep", "(II)I"⟩
abbrev cX6_untilRound : ByteArray := prog_8_method_50_code
def yX6_untilRound : MethodName := ⟨RX6, "untilRound", "(I)I"⟩
abbrev cX6_put : ByteArray := prog_8_method_51_code
def yX6_put : MethodName := ⟨RX6, "put", "(J)I"⟩
abbrev cX6_wipe : ByteArray := prog_8_method_52_code
def yX6_wipe : MethodName := ⟨RX6, "wipe", "()I"⟩
abbrev cX6_fault : ByteArray := prog_8_method_53_code
def yX6_fault : MethodName := ⟨RX6, "fault", "()I"⟩
abbrev cX6_undo : ByteArray := prog_8_method_54_code
def yX6_undo : MethodName := ⟨RX6, "undo", "()I"⟩
abbrev cX6_save : ByteArray := prog_8_method_55_code
def yX6_save : MethodName := ⟨RX6, "save", "(I)I"⟩
abbrev cX6_restore : ByteArray := prog_8_method_56_code
def yX6_restore : MethodName := ⟨RX6, "restore", "(I)I"⟩
def RJ6 : String := "java/lang/Integer"
def TJ6 : u_T := fun k => match k with
  | _ => ("", "", "", false)
def tyJ6 : Nat → FieldType := fun k => match k with
  | _ => .int
abbrev wsJ60 : List Cond := u_ws RJ6 TJ6 0
theorem nmJ6 : ∀ a, a < 0 → ∀ b, b < 0 → a ≠ b → (TJ6 a).2.1 ≠ (TJ6 b).2.1 := by decide +kernel
theorem tyJ6_ok : ∀ k, k < 0 → parseFieldDescriptor (TJ6 k).2.2.1 = some (tyJ6 k) := by decide +kernel
abbrev cJ6_bitCount_0f7a4 : ByteArray := prog_9_method_49_code
def yJ6_bitCount_0f7a4 : MethodName := ⟨RJ6, "bitCount", "(I)I"⟩
def RJ9 : String := "java/lang/Math"
def TJ9 : u_T := fun k => match k with
  | _ => ("", "", "", false)
def tyJ9 : Nat → FieldType := fun k => match k with
  | _ => .int
abbrev wsJ90 : List Cond := u_ws RJ9 TJ9 0
theorem nmJ9 : ∀ a, a < 0 → ∀ b, b < 0 → a ≠ b → (TJ9 a).2.1 ≠ (TJ9 b).2.1 := by decide +kernel
theorem tyJ9_ok : ∀ k, k < 0 → parseFieldDescriptor (TJ9 k).2.2.1 = some (tyJ9 k) := by decide +kernel
abbrev cJ9_floorMod_7cf53 : ByteArray := prog_10_method_50_code
def yJ9_floorMod_7cf53 : MethodName := ⟨RJ9, "floorMod", "(II)I"⟩
abbrev cJ9_abs_0f7a4 : ByteArray := prog_10_method_59_code
def yJ9_abs_0f7a4 : MethodName := ⟨RJ9, "abs", "(I)I"⟩
abbrev cJ9_max_7cf53 : ByteArray := prog_10_method_65_code
def yJ9_max_7cf53 : MethodName := ⟨RJ9, "max", "(II)I"⟩
abbrev cJ9_min_7cf53 : ByteArray := prog_10_method_69_code
def yJ9_min_7cf53 : MethodName := ⟨RJ9, "min", "(II)I"⟩
def RJ10 : String := "java/lang/System"
def TJ10 : u_T := fun k => match k with
  | _ => ("", "", "", false)
def tyJ10 : Nat → FieldType := fun k => match k with
  | _ => .int
abbrev wsJ100 : List Cond := u_ws RJ10 TJ10 0
theorem nmJ10 : ∀ a, a < 0 → ∀ b, b < 0 → a ≠ b → (TJ10 a).2.1 ≠ (TJ10 b).2.1 := by decide +kernel
theorem tyJ10_ok : ∀ k, k < 0 → parseFieldDescriptor (TJ10 k).2.2.1 = some (tyJ10 k) := by decide +kernel
def RL : String := "PhaseTonesLaw"
def yL_law : MethodName := ⟨RL, "law", "([I)Z"⟩
def wsX4_init : List Cond := .code yX4_init cX4_init 1 none :: ([.methodLink RX4 3 objectInit, .instanceMethod objectInit, .code objectInit ⟨#[0xb1]⟩ 1 none, .fieldLink RX4 9 "PhaseTones$Wheel" "step" "I", .fieldLink RX4 15 "PhaseTones$Wheel" "volume" "I", .arrayClass .int, .fieldLink RX4 18 "PhaseTones$Wheel" "ends" "[I", .fieldLink RX4 22 "PhaseTones$Wheel" "lengths" "[I"] ++ wsX40)
def wsX3_init : List Cond := .code yX3_init cX3_init 3 none :: ([.methodLink RX3 3 objectInit, .instanceMethod objectInit, .code objectInit ⟨#[0xb1]⟩ 1 none, .fieldLink RX3 9 "PhaseTones$Sound" "limit" "I", .arrayClass .int, .fieldLink RX3 15 "PhaseTones$Sound" "values" "[I", .classLink RX3 19 RX4, .fieldLink RX3 21 "PhaseTones$Sound" "wheels" "[LPhaseTones$Wheel;", .fieldLink RX3 25 "PhaseTones$Sound" "latest" "[I", .instantiable RX4 10, .initialized RX4, .fieldLink RX3 29 "PhaseTones$Wheel" "isOn" "Z", .instanceMethod yX4_init, .code yX4_init cX4_init 1 none, .methodLink RX4 3 objectInit, .fieldLink RX4 9 "PhaseTones$Wheel" "step" "I", .fieldLink RX4 15 "PhaseTones$Wheel" "volume" "I", .fieldLink RX4 18 "PhaseTones$Wheel" "ends" "[I", .fieldLink RX4 22 "PhaseTones$Wheel" "lengths" "[I"] ++ wsX30 ++ wsX40)
def wsX0_init_r1 : List Cond := [Cond.methodLink RX0 3 objectInit, Cond.instanceMethod objectInit, Cond.code objectInit ⟨#[0xb1]⟩ 1 none, Cond.classLink RX0 9 RX3, Cond.fieldLink RX0 11 "PhaseTones$History" "states" "[LPhaseTones$Sound;", Cond.instantiable RX3 8, Cond.initialized RX3, Cond.methodLink RX0 17 yX3_init, Cond.instanceMethod yX3_init, Cond.code yX3_init cX3_init 3 none, Cond.methodLink RX3 3 objectInit, Cond.fieldLink RX3 9 "PhaseTones$Sound" "limit" "I", Cond.arrayClass .int, Cond.fieldLink RX3 15 "PhaseTones$Sound" "values" "[I", Cond.classLink RX3 19 RX4, Cond.fieldLink RX3 21 "PhaseTones$Sound" "wheels" "[LPhaseTones$Wheel;", Cond.fieldLink RX3 25 "PhaseTones$Sound" "latest" "[I", Cond.instantiable RX4 10, Cond.initialized RX4, Cond.fieldLink RX3 29 "PhaseTones$Wheel" "isOn" "Z", Cond.instanceMethod yX4_init, Cond.code yX4_init cX4_init 1 none, Cond.methodLink RX4 3 objectInit, Cond.fieldLink RX4 9 "PhaseTones$Wheel" "step" "I"]
def wsX0_init_r2 : List Cond := [Cond.fieldLink RX4 15 "PhaseTones$Wheel" "volume" "I", Cond.fieldLink RX4 18 "PhaseTones$Wheel" "ends" "[I", Cond.fieldLink RX4 22 "PhaseTones$Wheel" "lengths" "[I"]
def wsX0_init : List Cond := .code yX0_init cX0_init 2 none :: ((wsX0_init_r1 ++ wsX0_init_r2) ++ wsX00 ++ wsX30 ++ wsX40)
def wsJ9_floorMod_7cf53 : List Cond := .code yJ9_floorMod_7cf53 cJ9_floorMod_7cf53 3 (some .int) :: ([])
def wsX4_takeOver : List Cond := .code yX4_takeOver cX4_takeOver 2 none :: ([.fieldLink RX4 25 "PhaseTones$Wheel" "phase" "I", .fieldLink RX4 9 "PhaseTones$Wheel" "step" "I", .fieldLink RX4 28 "PhaseTones$Wheel" "table" "I", .fieldLink RX4 15 "PhaseTones$Wheel" "volume" "I", .fieldLink RX4 31 "PhaseTones$Wheel" "isOn" "Z", .fieldLink RX4 35 "PhaseTones$Wheel" "sweeps" "I", .fieldLink RX4 18 "PhaseTones$Wheel" "ends" "[I", .methodLink RX4 38 arraycopyName, .native arraycopyName, .static arraycopyName, .initialized "java/lang/System", .fieldLink RX4 22 "PhaseTones$Wheel" "lengths" "[I", .fieldLink RX4 44 "PhaseTones$Wheel" "begin" "I", .fieldLink RX4 47 "PhaseTones$Wheel" "gone" "I"] ++ wsX40)
def wsX3_takeOver_r1 : List Cond := [Cond.fieldLink RX3 9 "PhaseTones$Sound" "limit" "I", Cond.fieldLink RX3 15 "PhaseTones$Sound" "values" "[I", Cond.methodLink RX3 33 arraycopyName, Cond.native arraycopyName, Cond.static arraycopyName, Cond.initialized "java/lang/System", Cond.fieldLink RX3 21 "PhaseTones$Sound" "wheels" "[LPhaseTones$Wheel;", Cond.fieldLink RX3 43 "PhaseTones$Sound" "made" "I", Cond.fieldLink RX3 46 "PhaseTones$Sound" "clipped" "I", Cond.fieldLink RX3 49 "PhaseTones$Sound" "sum" "I", Cond.fieldLink RX3 52 "PhaseTones$Sound" "rises" "I", Cond.fieldLink RX3 25 "PhaseTones$Sound" "latest" "[I", Cond.methodLink RX3 39 yX4_takeOver, Cond.instanceMethod yX4_takeOver, Cond.selects RX4 yX4_takeOver yX4_takeOver, Cond.initialized RX4, Cond.code yX4_takeOver cX4_takeOver 2 none, Cond.fieldLink RX4 25 "PhaseTones$Wheel" "phase" "I", Cond.fieldLink RX4 9 "PhaseTones$Wheel" "step" "I", Cond.fieldLink RX4 28 "PhaseTones$Wheel" "table" "I", Cond.fieldLink RX4 15 "PhaseTones$Wheel" "volume" "I", Cond.fieldLink RX4 31 "PhaseTones$Wheel" "isOn" "Z", Cond.fieldLink RX4 35 "PhaseTones$Wheel" "sweeps" "I", Cond.fieldLink RX4 18 "PhaseTones$Wheel" "ends" "[I"]
def wsX3_takeOver_r2 : List Cond := [Cond.methodLink RX4 38 arraycopyName, Cond.fieldLink RX4 22 "PhaseTones$Wheel" "lengths" "[I", Cond.fieldLink RX4 44 "PhaseTones$Wheel" "begin" "I", Cond.fieldLink RX4 47 "PhaseTones$Wheel" "gone" "I"]
def wsX3_takeOver : List Cond := .code yX3_takeOver cX3_takeOver 3 none :: ((wsX3_takeOver_r1 ++ wsX3_takeOver_r2) ++ wsX30 ++ wsX40)
def wsX0_keep_r1 : List Cond := [Cond.fieldLink RX0 11 "PhaseTones$History" "states" "[LPhaseTones$Sound;", Cond.fieldLink RX0 18 "PhaseTones$History" "recorded" "I", Cond.fieldLink RX0 32 "PhaseTones$History" "kept" "I", Cond.methodLink RX0 35 Lib.Math.min.name, Cond.static Lib.Math.min.name, Cond.initialized "java/lang/Math", Cond.code Lib.Math.min.name Lib.Math.min.code 2 (some .int), Cond.methodLink RX0 22 yJ9_floorMod_7cf53, Cond.static yJ9_floorMod_7cf53, Cond.initialized RJ9, Cond.code yJ9_floorMod_7cf53 cJ9_floorMod_7cf53 3 (some .int), Cond.methodLink RX0 28 yX3_takeOver, Cond.instanceMethod yX3_takeOver, Cond.selects RX3 yX3_takeOver yX3_takeOver, Cond.initialized RX3, Cond.code yX3_takeOver cX3_takeOver 3 none, Cond.fieldLink RX3 9 "PhaseTones$Sound" "limit" "I", Cond.fieldLink RX3 15 "PhaseTones$Sound" "values" "[I", Cond.methodLink RX3 33 arraycopyName, Cond.native arraycopyName, Cond.static arraycopyName, Cond.initialized "java/lang/System", Cond.fieldLink RX3 21 "PhaseTones$Sound" "wheels" "[LPhaseTones$Wheel;", Cond.fieldLink RX3 43 "PhaseTones$Sound" "made" "I"]
def wsX0_keep_r2 : List Cond := [Cond.fieldLink RX3 46 "PhaseTones$Sound" "clipped" "I", Cond.fieldLink RX3 49 "PhaseTones$Sound" "sum" "I", Cond.fieldLink RX3 52 "PhaseTones$Sound" "rises" "I", Cond.fieldLink RX3 25 "PhaseTones$Sound" "latest" "[I", Cond.methodLink RX3 39 yX4_takeOver, Cond.instanceMethod yX4_takeOver, Cond.selects RX4 yX4_takeOver yX4_takeOver, Cond.initialized RX4, Cond.code yX4_takeOver cX4_takeOver 2 none, Cond.fieldLink RX4 25 "PhaseTones$Wheel" "phase" "I", Cond.fieldLink RX4 9 "PhaseTones$Wheel" "step" "I", Cond.fieldLink RX4 28 "PhaseTones$Wheel" "table" "I", Cond.fieldLink RX4 15 "PhaseTones$Wheel" "volume" "I", Cond.fieldLink RX4 31 "PhaseTones$Wheel" "isOn" "Z", Cond.fieldLink RX4 35 "PhaseTones$Wheel" "sweeps" "I", Cond.fieldLink RX4 18 "PhaseTones$Wheel" "ends" "[I", Cond.methodLink RX4 38 arraycopyName, Cond.fieldLink RX4 22 "PhaseTones$Wheel" "lengths" "[I", Cond.fieldLink RX4 44 "PhaseTones$Wheel" "begin" "I", Cond.fieldLink RX4 47 "PhaseTones$Wheel" "gone" "I"]
def wsX0_keep : List Cond := .code yX0_keep cX0_keep 2 none :: ((wsX0_keep_r1 ++ wsX0_keep_r2) ++ wsX00 ++ wsX30 ++ wsX40)
def wsX0_bringBack_r1 : List Cond := [Cond.fieldLink RX0 18 "PhaseTones$History" "recorded" "I", Cond.fieldLink RX0 32 "PhaseTones$History" "kept" "I", Cond.methodLink RX0 38 Lib.Math.max.name, Cond.static Lib.Math.max.name, Cond.initialized "java/lang/Math", Cond.code Lib.Math.max.name Lib.Math.max.code 2 (some .int), Cond.fieldLink RX0 11 "PhaseTones$History" "states" "[LPhaseTones$Sound;", Cond.methodLink RX0 22 yJ9_floorMod_7cf53, Cond.static yJ9_floorMod_7cf53, Cond.initialized RJ9, Cond.code yJ9_floorMod_7cf53 cJ9_floorMod_7cf53 3 (some .int), Cond.methodLink RX0 28 yX3_takeOver, Cond.instanceMethod yX3_takeOver, Cond.selects RX3 yX3_takeOver yX3_takeOver, Cond.initialized RX3, Cond.code yX3_takeOver cX3_takeOver 3 none, Cond.fieldLink RX3 9 "PhaseTones$Sound" "limit" "I", Cond.fieldLink RX3 15 "PhaseTones$Sound" "values" "[I", Cond.methodLink RX3 33 arraycopyName, Cond.native arraycopyName, Cond.static arraycopyName, Cond.initialized "java/lang/System", Cond.fieldLink RX3 21 "PhaseTones$Sound" "wheels" "[LPhaseTones$Wheel;", Cond.fieldLink RX3 43 "PhaseTones$Sound" "made" "I"]
def wsX0_bringBack_r2 : List Cond := [Cond.fieldLink RX3 46 "PhaseTones$Sound" "clipped" "I", Cond.fieldLink RX3 49 "PhaseTones$Sound" "sum" "I", Cond.fieldLink RX3 52 "PhaseTones$Sound" "rises" "I", Cond.fieldLink RX3 25 "PhaseTones$Sound" "latest" "[I", Cond.methodLink RX3 39 yX4_takeOver, Cond.instanceMethod yX4_takeOver, Cond.selects RX4 yX4_takeOver yX4_takeOver, Cond.initialized RX4, Cond.code yX4_takeOver cX4_takeOver 2 none, Cond.fieldLink RX4 25 "PhaseTones$Wheel" "phase" "I", Cond.fieldLink RX4 9 "PhaseTones$Wheel" "step" "I", Cond.fieldLink RX4 28 "PhaseTones$Wheel" "table" "I", Cond.fieldLink RX4 15 "PhaseTones$Wheel" "volume" "I", Cond.fieldLink RX4 31 "PhaseTones$Wheel" "isOn" "Z", Cond.fieldLink RX4 35 "PhaseTones$Wheel" "sweeps" "I", Cond.fieldLink RX4 18 "PhaseTones$Wheel" "ends" "[I", Cond.methodLink RX4 38 arraycopyName, Cond.fieldLink RX4 22 "PhaseTones$Wheel" "lengths" "[I", Cond.fieldLink RX4 44 "PhaseTones$Wheel" "begin" "I", Cond.fieldLink RX4 47 "PhaseTones$Wheel" "gone" "I"]
def wsX0_bringBack : List Cond := .code yX0_bringBack cX0_bringBack 2 none :: ((wsX0_bringBack_r1 ++ wsX0_bringBack_r2) ++ wsX00 ++ wsX30 ++ wsX40)
def wsX1_init : List Cond := .code yX1_init cX1_init 1 none :: ([.methodLink RX1 3 objectInit, .instanceMethod objectInit, .code objectInit ⟨#[0xb1]⟩ 1 none, .arrayClass .char, .fieldLink RX1 9 "PhaseTones$Pad" "text" "[C"] ++ wsX10)
def wsX1_append : List Cond := .code yX1_append cX1_append 2 none :: ([.fieldLink RX1 15 "PhaseTones$Pad" "length" "I", .fieldLink RX1 9 "PhaseTones$Pad" "text" "[C"] ++ wsX10)
def wsX1_signHere : List Cond := .code yX1_signHere cX1_signHere 1 (some .int) :: ([.fieldLink RX1 19 "PhaseTones$Pad" "at" "I", .fieldLink RX1 15 "PhaseTones$Pad" "length" "I", .fieldLink RX1 9 "PhaseTones$Pad" "text" "[C"] ++ wsX10)
def wsX1_pass : List Cond := .code yX1_pass cX1_pass 2 (some .boolean) :: ([.fieldLink RX1 19 "PhaseTones$Pad" "at" "I", .methodLink RX1 43 yX1_signHere, .instanceMethod yX1_signHere, .selects RX1 yX1_signHere yX1_signHere, .initialized RX1, .code yX1_signHere cX1_signHere 1 (some .int), .fieldLink RX1 15 "PhaseTones$Pad" "length" "I", .fieldLink RX1 9 "PhaseTones$Pad" "text" "[C"] ++ wsX10)
def wsX5_isOutside : List Cond := .code yX5_isOutside cX5_isOutside 3 (some .boolean) :: ([])
def wsX1_digitHere : List Cond := .code yX1_digitHere cX1_digitHere 2 (some .int) :: ([.methodLink RX1 43 yX1_signHere, .instanceMethod yX1_signHere, .selects RX1 yX1_signHere yX1_signHere, .initialized RX1, .code yX1_signHere cX1_signHere 1 (some .int), .fieldLink RX1 19 "PhaseTones$Pad" "at" "I", .fieldLink RX1 15 "PhaseTones$Pad" "length" "I", .fieldLink RX1 9 "PhaseTones$Pad" "text" "[C", .static yX5_isOutside, .initialized RX5, .code yX5_isOutside cX5_isOutside 3 (some .boolean)] ++ wsX10)
def wsX1_readNumber : List Cond := .code yX1_readNumber cX1_readNumber 5 (some .int) :: ([.fieldLink RX1 19 "PhaseTones$Pad" "at" "I", .fieldLink RX1 15 "PhaseTones$Pad" "length" "I", .methodLink RX1 57 yX1_digitHere, .instanceMethod yX1_digitHere, .selects RX1 yX1_digitHere yX1_digitHere, .initialized RX1, .code yX1_digitHere cX1_digitHere 2 (some .int), .methodLink RX1 43 yX1_signHere, .instanceMethod yX1_signHere, .selects RX1 yX1_signHere yX1_signHere, .code yX1_signHere cX1_signHere 1 (some .int), .fieldLink RX1 9 "PhaseTones$Pad" "text" "[C", .static yX5_isOutside, .initialized RX5, .code yX5_isOutside cX5_isOutside 3 (some .boolean)] ++ wsX10)
def wsX1_readSamples : List Cond := .code yX1_readSamples cX1_readSamples 1 (some .boolean) :: ([.fieldLink RX1 54 "PhaseTones$Pad" "samples" "I", .methodLink RX1 36 yX1_readNumber, .instanceMethod yX1_readNumber, .selects RX1 yX1_readNumber yX1_readNumber, .initialized RX1, .code yX1_readNumber cX1_readNumber 5 (some .int), .fieldLink RX1 19 "PhaseTones$Pad" "at" "I", .fieldLink RX1 15 "PhaseTones$Pad" "length" "I", .methodLink RX1 57 yX1_digitHere, .instanceMethod yX1_digitHere, .selects RX1 yX1_digitHere yX1_digitHere, .code yX1_digitHere cX1_digitHere 2 (some .int), .methodLink RX1 43 yX1_signHere, .instanceMethod yX1_signHere, .selects RX1 yX1_signHere yX1_signHere, .code yX1_signHere cX1_signHere 1 (some .int), .fieldLink RX1 9 "PhaseTones$Pad" "text" "[C", .static yX5_isOutside, .initialized RX5, .code yX5_isOutside cX5_isOutside 3 (some .boolean)] ++ wsX10)
def wsX1_readBehindSign : List Cond := .code yX1_readBehindSign cX1_readBehindSign 2 (some .boolean) :: ([.fieldLink RX1 19 "PhaseTones$Pad" "at" "I", .fieldLink RX1 51 "PhaseTones$Pad" "number" "I", .methodLink RX1 36 yX1_readNumber, .instanceMethod yX1_readNumber, .selects RX1 yX1_readNumber yX1_readNumber, .initialized RX1, .code yX1_readNumber cX1_readNumber 5 (some .int), .fieldLink RX1 15 "PhaseTones$Pad" "length" "I", .methodLink RX1 57 yX1_digitHere, .instanceMethod yX1_digitHere, .selects RX1 yX1_digitHere yX1_digitHere, .code yX1_digitHere cX1_digitHere 2 (some .int), .methodLink RX1 43 yX1_signHere, .instanceMethod yX1_signHere, .selects RX1 yX1_signHere yX1_signHere, .code yX1_signHere cX1_signHere 1 (some .int), .fieldLink RX1 9 "PhaseTones$Pad" "text" "[C", .static yX5_isOutside, .initialized RX5, .code yX5_isOutside cX5_isOutside 3 (some .boolean)] ++ wsX10)
def wsX1_readOrder_r1 : List Cond := [Cond.fieldLink RX1 30 "PhaseTones$Pad" "order" "I", Cond.fieldLink RX1 40 "PhaseTones$Pad" "wheel" "I", Cond.constant RX1 47 (65535), Cond.fieldLink RX1 19 "PhaseTones$Pad" "at" "I", Cond.methodLink RX1 26 yX1_pass, Cond.instanceMethod yX1_pass, Cond.selects RX1 yX1_pass yX1_pass, Cond.initialized RX1, Cond.code yX1_pass cX1_pass 2 (some .boolean), Cond.methodLink RX1 43 yX1_signHere, Cond.instanceMethod yX1_signHere, Cond.selects RX1 yX1_signHere yX1_signHere, Cond.code yX1_signHere cX1_signHere 1 (some .int), Cond.fieldLink RX1 15 "PhaseTones$Pad" "length" "I", Cond.fieldLink RX1 9 "PhaseTones$Pad" "text" "[C", Cond.methodLink RX1 33 yX1_readSamples, Cond.instanceMethod yX1_readSamples, Cond.selects RX1 yX1_readSamples yX1_readSamples, Cond.code yX1_readSamples cX1_readSamples 1 (some .boolean), Cond.fieldLink RX1 54 "PhaseTones$Pad" "samples" "I", Cond.methodLink RX1 36 yX1_readNumber, Cond.instanceMethod yX1_readNumber, Cond.selects RX1 yX1_readNumber yX1_readNumber, Cond.code yX1_readNumber cX1_readNumber 5 (some .int)]
def wsX1_readOrder_r2 : List Cond := [Cond.methodLink RX1 57 yX1_digitHere, Cond.instanceMethod yX1_digitHere, Cond.selects RX1 yX1_digitHere yX1_digitHere, Cond.code yX1_digitHere cX1_digitHere 2 (some .int), Cond.static yX5_isOutside, Cond.initialized RX5, Cond.code yX5_isOutside cX5_isOutside 3 (some .boolean), Cond.methodLink RX1 48 yX1_readBehindSign, Cond.instanceMethod yX1_readBehindSign, Cond.selects RX1 yX1_readBehindSign yX1_readBehindSign, Cond.code yX1_readBehindSign cX1_readBehindSign 2 (some .boolean), Cond.fieldLink RX1 51 "PhaseTones$Pad" "number" "I"]
def wsX1_readOrder : List Cond := .code yX1_readOrder cX1_readOrder 1 (some .boolean) :: ((wsX1_readOrder_r1 ++ wsX1_readOrder_r2) ++ wsX10)
def wsX1_findFault_r1 : List Cond := [Cond.fieldLink RX1 19 "PhaseTones$Pad" "at" "I", Cond.fieldLink RX1 15 "PhaseTones$Pad" "length" "I", Cond.methodLink RX1 22 yX1_readOrder, Cond.instanceMethod yX1_readOrder, Cond.selects RX1 yX1_readOrder yX1_readOrder, Cond.initialized RX1, Cond.code yX1_readOrder cX1_readOrder 1 (some .boolean), Cond.fieldLink RX1 30 "PhaseTones$Pad" "order" "I", Cond.fieldLink RX1 40 "PhaseTones$Pad" "wheel" "I", Cond.constant RX1 47 (65535), Cond.methodLink RX1 26 yX1_pass, Cond.instanceMethod yX1_pass, Cond.selects RX1 yX1_pass yX1_pass, Cond.code yX1_pass cX1_pass 2 (some .boolean), Cond.methodLink RX1 43 yX1_signHere, Cond.instanceMethod yX1_signHere, Cond.selects RX1 yX1_signHere yX1_signHere, Cond.code yX1_signHere cX1_signHere 1 (some .int), Cond.fieldLink RX1 9 "PhaseTones$Pad" "text" "[C", Cond.methodLink RX1 33 yX1_readSamples, Cond.instanceMethod yX1_readSamples, Cond.selects RX1 yX1_readSamples yX1_readSamples, Cond.code yX1_readSamples cX1_readSamples 1 (some .boolean), Cond.fieldLink RX1 54 "PhaseTones$Pad" "samples" "I"]
def wsX1_findFault_r2 : List Cond := [Cond.methodLink RX1 36 yX1_readNumber, Cond.instanceMethod yX1_readNumber, Cond.selects RX1 yX1_readNumber yX1_readNumber, Cond.code yX1_readNumber cX1_readNumber 5 (some .int), Cond.methodLink RX1 57 yX1_digitHere, Cond.instanceMethod yX1_digitHere, Cond.selects RX1 yX1_digitHere yX1_digitHere, Cond.code yX1_digitHere cX1_digitHere 2 (some .int), Cond.static yX5_isOutside, Cond.initialized RX5, Cond.code yX5_isOutside cX5_isOutside 3 (some .boolean), Cond.methodLink RX1 48 yX1_readBehindSign, Cond.instanceMethod yX1_readBehindSign, Cond.selects RX1 yX1_readBehindSign yX1_readBehindSign, Cond.code yX1_readBehindSign cX1_readBehindSign 2 (some .boolean), Cond.fieldLink RX1 51 "PhaseTones$Pad" "number" "I"]
def wsX1_findFault : List Cond := .code yX1_findFault cX1_findFault 2 (some .int) :: ((wsX1_findFault_r1 ++ wsX1_findFault_r2) ++ wsX10)
def wsX2_init_r1 : List Cond := [Cond.methodLink RX2 3 objectInit, Cond.instanceMethod objectInit, Cond.code objectInit ⟨#[0xb1]⟩ 1 none, Cond.classLink RX2 9 RX3, Cond.fieldLink RX2 11 "PhaseTones$Slots" "sounds" "[LPhaseTones$Sound;", Cond.arrayClass .boolean, Cond.fieldLink RX2 17 "PhaseTones$Slots" "isSaved" "[Z", Cond.instantiable RX3 8, Cond.initialized RX3, Cond.methodLink RX2 21 yX3_init, Cond.instanceMethod yX3_init, Cond.code yX3_init cX3_init 3 none, Cond.methodLink RX3 3 objectInit, Cond.fieldLink RX3 9 "PhaseTones$Sound" "limit" "I", Cond.arrayClass .int, Cond.fieldLink RX3 15 "PhaseTones$Sound" "values" "[I", Cond.classLink RX3 19 RX4, Cond.fieldLink RX3 21 "PhaseTones$Sound" "wheels" "[LPhaseTones$Wheel;", Cond.fieldLink RX3 25 "PhaseTones$Sound" "latest" "[I", Cond.instantiable RX4 10, Cond.initialized RX4, Cond.fieldLink RX3 29 "PhaseTones$Wheel" "isOn" "Z", Cond.instanceMethod yX4_init, Cond.code yX4_init cX4_init 1 none]
def wsX2_init_r2 : List Cond := [Cond.methodLink RX4 3 objectInit, Cond.fieldLink RX4 9 "PhaseTones$Wheel" "step" "I", Cond.fieldLink RX4 15 "PhaseTones$Wheel" "volume" "I", Cond.fieldLink RX4 18 "PhaseTones$Wheel" "ends" "[I", Cond.fieldLink RX4 22 "PhaseTones$Wheel" "lengths" "[I"]
def wsX2_init : List Cond := .code yX2_init cX2_init 2 none :: ((wsX2_init_r1 ++ wsX2_init_r2) ++ wsX20 ++ wsX30 ++ wsX40)
def wsX3_valueGivenBy : List Cond := .code yX3_valueGivenBy cX3_valueGivenBy 3 (some .int) :: ([.fieldLink RX3 55 "PhaseTones$Wheel" "table" "I", .fieldLink RX3 58 "PhaseTones$Wheel" "phase" "I", .fieldLink RX3 15 "PhaseTones$Sound" "values" "[I", .fieldLink RX3 61 "PhaseTones$Wheel" "volume" "I"] ++ wsX40 ++ wsX30)
def wsX3_sumOfOn : List Cond := .code yX3_sumOfOn cX3_sumOfOn 3 (some .int) :: ([.fieldLink RX3 21 "PhaseTones$Sound" "wheels" "[LPhaseTones$Wheel;", .fieldLink RX3 29 "PhaseTones$Wheel" "isOn" "Z", .methodLink RX3 64 yX3_valueGivenBy, .instanceMethod yX3_valueGivenBy, .selects RX3 yX3_valueGivenBy yX3_valueGivenBy, .initialized RX3, .code yX3_valueGivenBy cX3_valueGivenBy 3 (some .int), .fieldLink RX3 55 "PhaseTones$Wheel" "table" "I", .fieldLink RX3 58 "PhaseTones$Wheel" "phase" "I", .fieldLink RX3 15 "PhaseTones$Sound" "values" "[I", .fieldLink RX3 61 "PhaseTones$Wheel" "volume" "I"] ++ wsX30 ++ wsX40)
def wsX3_maskOfOn : List Cond := .code yX3_maskOfOn cX3_maskOfOn 3 (some .int) :: ([.fieldLink RX3 21 "PhaseTones$Sound" "wheels" "[LPhaseTones$Wheel;", .fieldLink RX3 29 "PhaseTones$Wheel" "isOn" "Z"] ++ wsX30 ++ wsX40)
def wsX4_samplesOfARound : List Cond := .code yX4_samplesOfARound cX4_samplesOfARound 2 (some .int) :: ([.fieldLink RX4 9 "PhaseTones$Wheel" "step" "I", .constant RX4 53 (65536)] ++ wsX40)
def wsX3_samplesOfARoundOfAll : List Cond := .code yX3_samplesOfARoundOfAll cX3_samplesOfARoundOfAll 3 (some .int) :: ([.fieldLink RX3 21 "PhaseTones$Sound" "wheels" "[LPhaseTones$Wheel;", .fieldLink RX3 29 "PhaseTones$Wheel" "isOn" "Z", .methodLink RX3 72 Lib.Math.max.name, .static Lib.Math.max.name, .initialized "java/lang/Math", .code Lib.Math.max.name Lib.Math.max.code 2 (some .int), .methodLink RX3 68 yX4_samplesOfARound, .instanceMethod yX4_samplesOfARound, .selects RX4 yX4_samplesOfARound yX4_samplesOfARound, .initialized RX4, .code yX4_samplesOfARound cX4_samplesOfARound 2 (some .int), .fieldLink RX4 9 "PhaseTones$Wheel" "step" "I", .constant RX4 53 (65536)] ++ wsX30 ++ wsX40)
def wsX3_hasNoRoomFor : List Cond := .code yX3_hasNoRoomFor cX3_hasNoRoomFor 2 (some .boolean) :: ([.constant RX3 78 (999999), .fieldLink RX3 43 "PhaseTones$Sound" "made" "I"] ++ wsX30)
def wsX3_mixtureAgo : List Cond := .code yX3_mixtureAgo cX3_mixtureAgo 2 (some .int) :: ([.fieldLink RX3 25 "PhaseTones$Sound" "latest" "[I", .fieldLink RX3 43 "PhaseTones$Sound" "made" "I", .methodLink RX3 104 yJ9_floorMod_7cf53, .static yJ9_floorMod_7cf53, .initialized RJ9, .code yJ9_floorMod_7cf53 cJ9_floorMod_7cf53 3 (some .int)] ++ wsX30)
def wsX3_keepMixture : List Cond := .code yX3_keepMixture cX3_keepMixture 2 none :: ([.fieldLink RX3 43 "PhaseTones$Sound" "made" "I", .fieldLink RX3 52 "PhaseTones$Sound" "rises" "I", .fieldLink RX3 49 "PhaseTones$Sound" "sum" "I", .constant RX3 103 (1000003), .fieldLink RX3 25 "PhaseTones$Sound" "latest" "[I", .methodLink RX3 99 yX3_mixtureAgo, .instanceMethod yX3_mixtureAgo, .selects RX3 yX3_mixtureAgo yX3_mixtureAgo, .initialized RX3, .code yX3_mixtureAgo cX3_mixtureAgo 2 (some .int), .methodLink RX3 104 yJ9_floorMod_7cf53, .static yJ9_floorMod_7cf53, .initialized RJ9, .code yJ9_floorMod_7cf53 cJ9_floorMod_7cf53 3 (some .int)] ++ wsX30)
def wsX4_dropFirstSweep : List Cond := .code yX4_dropFirstSweep cX4_dropFirstSweep 2 none :: ([.fieldLink RX4 35 "PhaseTones$Wheel" "sweeps" "I", .fieldLink RX4 18 "PhaseTones$Wheel" "ends" "[I", .fieldLink RX4 22 "PhaseTones$Wheel" "lengths" "[I"] ++ wsX40)
def wsX4_beginSweep : List Cond := .code yX4_beginSweep cX4_beginSweep 1 none :: ([.fieldLink RX4 9 "PhaseTones$Wheel" "step" "I", .fieldLink RX4 44 "PhaseTones$Wheel" "begin" "I", .fieldLink RX4 47 "PhaseTones$Wheel" "gone" "I"] ++ wsX40)
def wsX4_goOnSweeping : List Cond := .code yX4_goOnSweeping cX4_goOnSweeping 2 none :: ([.fieldLink RX4 22 "PhaseTones$Wheel" "lengths" "[I", .fieldLink RX4 47 "PhaseTones$Wheel" "gone" "I", .fieldLink RX4 44 "PhaseTones$Wheel" "begin" "I", .fieldLink RX4 18 "PhaseTones$Wheel" "ends" "[I", .fieldLink RX4 9 "PhaseTones$Wheel" "step" "I", .methodLink RX4 57 yX4_dropFirstSweep, .instanceMethod yX4_dropFirstSweep, .selects RX4 yX4_dropFirstSweep yX4_dropFirstSweep, .initialized RX4, .code yX4_dropFirstSweep cX4_dropFirstSweep 2 none, .fieldLink RX4 35 "PhaseTones$Wheel" "sweeps" "I", .methodLink RX4 50 yX4_beginSweep, .instanceMethod yX4_beginSweep, .selects RX4 yX4_beginSweep yX4_beginSweep, .code yX4_beginSweep cX4_beginSweep 1 none] ++ wsX40)
def wsX4_goOn : List Cond := .code yX4_goOn cX4_goOn 1 none :: ([.fieldLink RX4 25 "PhaseTones$Wheel" "phase" "I", .fieldLink RX4 9 "PhaseTones$Wheel" "step" "I", .constant RX4 53 (65536), .fieldLink RX4 35 "PhaseTones$Wheel" "sweeps" "I", .methodLink RX4 54 yX4_goOnSweeping, .instanceMethod yX4_goOnSweeping, .selects RX4 yX4_goOnSweeping yX4_goOnSweeping, .initialized RX4, .code yX4_goOnSweeping cX4_goOnSweeping 2 none, .fieldLink RX4 22 "PhaseTones$Wheel" "lengths" "[I", .fieldLink RX4 47 "PhaseTones$Wheel" "gone" "I", .fieldLink RX4 44 "PhaseTones$Wheel" "begin" "I", .fieldLink RX4 18 "PhaseTones$Wheel" "ends" "[I", .methodLink RX4 57 yX4_dropFirstSweep, .instanceMethod yX4_dropFirstSweep, .selects RX4 yX4_dropFirstSweep yX4_dropFirstSweep, .code yX4_dropFirstSweep cX4_dropFirstSweep 2 none, .methodLink RX4 50 yX4_beginSweep, .instanceMethod yX4_beginSweep, .selects RX4 yX4_beginSweep yX4_beginSweep, .code yX4_beginSweep cX4_beginSweep 1 none] ++ wsX40)
def wsX3_makeOne_r1 : List Cond := [Cond.fieldLink RX3 9 "PhaseTones$Sound" "limit" "I", Cond.fieldLink RX3 46 "PhaseTones$Sound" "clipped" "I", Cond.methodLink RX3 89 Lib.Math.min.name, Cond.static Lib.Math.min.name, Cond.initialized "java/lang/Math", Cond.code Lib.Math.min.name Lib.Math.min.code 2 (some .int), Cond.fieldLink RX3 21 "PhaseTones$Sound" "wheels" "[LPhaseTones$Wheel;", Cond.fieldLink RX3 29 "PhaseTones$Wheel" "isOn" "Z", Cond.methodLink RX3 86 yX3_sumOfOn, Cond.instanceMethod yX3_sumOfOn, Cond.selects RX3 yX3_sumOfOn yX3_sumOfOn, Cond.initialized RX3, Cond.code yX3_sumOfOn cX3_sumOfOn 3 (some .int), Cond.methodLink RX3 64 yX3_valueGivenBy, Cond.instanceMethod yX3_valueGivenBy, Cond.selects RX3 yX3_valueGivenBy yX3_valueGivenBy, Cond.code yX3_valueGivenBy cX3_valueGivenBy 3 (some .int), Cond.fieldLink RX3 55 "PhaseTones$Wheel" "table" "I", Cond.fieldLink RX3 58 "PhaseTones$Wheel" "phase" "I", Cond.fieldLink RX3 15 "PhaseTones$Sound" "values" "[I", Cond.fieldLink RX3 61 "PhaseTones$Wheel" "volume" "I", Cond.methodLink RX3 92 yX3_keepMixture, Cond.instanceMethod yX3_keepMixture, Cond.selects RX3 yX3_keepMixture yX3_keepMixture]
def wsX3_makeOne_r2 : List Cond := [Cond.code yX3_keepMixture cX3_keepMixture 2 none, Cond.fieldLink RX3 43 "PhaseTones$Sound" "made" "I", Cond.fieldLink RX3 52 "PhaseTones$Sound" "rises" "I", Cond.fieldLink RX3 49 "PhaseTones$Sound" "sum" "I", Cond.constant RX3 103 (1000003), Cond.fieldLink RX3 25 "PhaseTones$Sound" "latest" "[I", Cond.methodLink RX3 99 yX3_mixtureAgo, Cond.instanceMethod yX3_mixtureAgo, Cond.selects RX3 yX3_mixtureAgo yX3_mixtureAgo, Cond.code yX3_mixtureAgo cX3_mixtureAgo 2 (some .int), Cond.methodLink RX3 104 yJ9_floorMod_7cf53, Cond.static yJ9_floorMod_7cf53, Cond.initialized RJ9, Cond.code yJ9_floorMod_7cf53 cJ9_floorMod_7cf53 3 (some .int), Cond.methodLink RX3 96 yX4_goOn, Cond.instanceMethod yX4_goOn, Cond.selects RX4 yX4_goOn yX4_goOn, Cond.initialized RX4, Cond.code yX4_goOn cX4_goOn 1 none, Cond.fieldLink RX4 25 "PhaseTones$Wheel" "phase" "I", Cond.fieldLink RX4 9 "PhaseTones$Wheel" "step" "I", Cond.constant RX4 53 (65536), Cond.fieldLink RX4 35 "PhaseTones$Wheel" "sweeps" "I", Cond.methodLink RX4 54 yX4_goOnSweeping]
def wsX3_makeOne_r3 : List Cond := [Cond.instanceMethod yX4_goOnSweeping, Cond.selects RX4 yX4_goOnSweeping yX4_goOnSweeping, Cond.code yX4_goOnSweeping cX4_goOnSweeping 2 none, Cond.fieldLink RX4 22 "PhaseTones$Wheel" "lengths" "[I", Cond.fieldLink RX4 47 "PhaseTones$Wheel" "gone" "I", Cond.fieldLink RX4 44 "PhaseTones$Wheel" "begin" "I", Cond.fieldLink RX4 18 "PhaseTones$Wheel" "ends" "[I", Cond.methodLink RX4 57 yX4_dropFirstSweep, Cond.instanceMethod yX4_dropFirstSweep, Cond.selects RX4 yX4_dropFirstSweep yX4_dropFirstSweep, Cond.code yX4_dropFirstSweep cX4_dropFirstSweep 2 none, Cond.methodLink RX4 50 yX4_beginSweep, Cond.instanceMethod yX4_beginSweep, Cond.selects RX4 yX4_beginSweep yX4_beginSweep, Cond.code yX4_beginSweep cX4_beginSweep 1 none]
def wsX3_makeOne : List Cond := .code yX3_makeOne cX3_makeOne 3 none :: ((wsX3_makeOne_r1 ++ (wsX3_makeOne_r2 ++ wsX3_makeOne_r3)) ++ wsX30 ++ wsX40)
def wsX3_makeSome_r1 : List Cond := [Cond.methodLink RX3 79 yX3_hasNoRoomFor, Cond.instanceMethod yX3_hasNoRoomFor, Cond.selects RX3 yX3_hasNoRoomFor yX3_hasNoRoomFor, Cond.initialized RX3, Cond.code yX3_hasNoRoomFor cX3_hasNoRoomFor 2 (some .boolean), Cond.constant RX3 78 (999999), Cond.fieldLink RX3 43 "PhaseTones$Sound" "made" "I", Cond.methodLink RX3 83 yX3_makeOne, Cond.instanceMethod yX3_makeOne, Cond.selects RX3 yX3_makeOne yX3_makeOne, Cond.code yX3_makeOne cX3_makeOne 3 none, Cond.fieldLink RX3 9 "PhaseTones$Sound" "limit" "I", Cond.fieldLink RX3 46 "PhaseTones$Sound" "clipped" "I", Cond.methodLink RX3 89 Lib.Math.min.name, Cond.static Lib.Math.min.name, Cond.initialized "java/lang/Math", Cond.code Lib.Math.min.name Lib.Math.min.code 2 (some .int), Cond.fieldLink RX3 21 "PhaseTones$Sound" "wheels" "[LPhaseTones$Wheel;", Cond.fieldLink RX3 29 "PhaseTones$Wheel" "isOn" "Z", Cond.methodLink RX3 86 yX3_sumOfOn, Cond.instanceMethod yX3_sumOfOn, Cond.selects RX3 yX3_sumOfOn yX3_sumOfOn, Cond.code yX3_sumOfOn cX3_sumOfOn 3 (some .int), Cond.methodLink RX3 64 yX3_valueGivenBy]
def wsX3_makeSome_r2 : List Cond := [Cond.instanceMethod yX3_valueGivenBy, Cond.selects RX3 yX3_valueGivenBy yX3_valueGivenBy, Cond.code yX3_valueGivenBy cX3_valueGivenBy 3 (some .int), Cond.fieldLink RX3 55 "PhaseTones$Wheel" "table" "I", Cond.fieldLink RX3 58 "PhaseTones$Wheel" "phase" "I", Cond.fieldLink RX3 15 "PhaseTones$Sound" "values" "[I", Cond.fieldLink RX3 61 "PhaseTones$Wheel" "volume" "I", Cond.methodLink RX3 92 yX3_keepMixture, Cond.instanceMethod yX3_keepMixture, Cond.selects RX3 yX3_keepMixture yX3_keepMixture, Cond.code yX3_keepMixture cX3_keepMixture 2 none, Cond.fieldLink RX3 52 "PhaseTones$Sound" "rises" "I", Cond.fieldLink RX3 49 "PhaseTones$Sound" "sum" "I", Cond.constant RX3 103 (1000003), Cond.fieldLink RX3 25 "PhaseTones$Sound" "latest" "[I", Cond.methodLink RX3 99 yX3_mixtureAgo, Cond.instanceMethod yX3_mixtureAgo, Cond.selects RX3 yX3_mixtureAgo yX3_mixtureAgo, Cond.code yX3_mixtureAgo cX3_mixtureAgo 2 (some .int), Cond.methodLink RX3 104 yJ9_floorMod_7cf53, Cond.static yJ9_floorMod_7cf53, Cond.initialized RJ9, Cond.code yJ9_floorMod_7cf53 cJ9_floorMod_7cf53 3 (some .int), Cond.methodLink RX3 96 yX4_goOn]
def wsX3_makeSome_r3 : List Cond := [Cond.instanceMethod yX4_goOn, Cond.selects RX4 yX4_goOn yX4_goOn, Cond.initialized RX4, Cond.code yX4_goOn cX4_goOn 1 none, Cond.fieldLink RX4 25 "PhaseTones$Wheel" "phase" "I", Cond.fieldLink RX4 9 "PhaseTones$Wheel" "step" "I", Cond.constant RX4 53 (65536), Cond.fieldLink RX4 35 "PhaseTones$Wheel" "sweeps" "I", Cond.methodLink RX4 54 yX4_goOnSweeping, Cond.instanceMethod yX4_goOnSweeping, Cond.selects RX4 yX4_goOnSweeping yX4_goOnSweeping, Cond.code yX4_goOnSweeping cX4_goOnSweeping 2 none, Cond.fieldLink RX4 22 "PhaseTones$Wheel" "lengths" "[I", Cond.fieldLink RX4 47 "PhaseTones$Wheel" "gone" "I", Cond.fieldLink RX4 44 "PhaseTones$Wheel" "begin" "I", Cond.fieldLink RX4 18 "PhaseTones$Wheel" "ends" "[I", Cond.methodLink RX4 57 yX4_dropFirstSweep, Cond.instanceMethod yX4_dropFirstSweep, Cond.selects RX4 yX4_dropFirstSweep yX4_dropFirstSweep, Cond.code yX4_dropFirstSweep cX4_dropFirstSweep 2 none, Cond.methodLink RX4 50 yX4_beginSweep, Cond.instanceMethod yX4_beginSweep, Cond.selects RX4 yX4_beginSweep yX4_beginSweep, Cond.code yX4_beginSweep cX4_beginSweep 1 none]
def wsX3_makeSome : List Cond := .code yX3_makeSome cX3_makeSome 3 (some .boolean) :: ((wsX3_makeSome_r1 ++ (wsX3_makeSome_r2 ++ wsX3_makeSome_r3)) ++ wsX30 ++ wsX40)
def wsX4_changeStep : List Cond := .code yX4_changeStep cX4_changeStep 2 none :: ([.fieldLink RX4 9 "PhaseTones$Wheel" "step" "I", .fieldLink RX4 35 "PhaseTones$Wheel" "sweeps" "I"] ++ wsX40)
def wsX4_addSweep : List Cond := .code yX4_addSweep cX4_addSweep 3 (some .boolean) :: ([.fieldLink RX4 35 "PhaseTones$Wheel" "sweeps" "I", .fieldLink RX4 18 "PhaseTones$Wheel" "ends" "[I", .fieldLink RX4 22 "PhaseTones$Wheel" "lengths" "[I", .methodLink RX4 50 yX4_beginSweep, .instanceMethod yX4_beginSweep, .selects RX4 yX4_beginSweep yX4_beginSweep, .initialized RX4, .code yX4_beginSweep cX4_beginSweep 1 none, .fieldLink RX4 9 "PhaseTones$Wheel" "step" "I", .fieldLink RX4 44 "PhaseTones$Wheel" "begin" "I", .fieldLink RX4 47 "PhaseTones$Wheel" "gone" "I"] ++ wsX40)
def wsX4_image : List Cond := .code yX4_image cX4_image 1 (some .int) :: ([.fieldLink RX4 9 "PhaseTones$Wheel" "step" "I", .constant RX4 60 (32768), .constant RX4 53 (65536)] ++ wsX40)
def wsX4_samplesOfSweeps : List Cond := .code yX4_samplesOfSweeps cX4_samplesOfSweeps 3 (some .int) :: ([.fieldLink RX4 35 "PhaseTones$Wheel" "sweeps" "I", .fieldLink RX4 22 "PhaseTones$Wheel" "lengths" "[I", .fieldLink RX4 47 "PhaseTones$Wheel" "gone" "I"] ++ wsX40)
def wsX4_lastStep : List Cond := .code yX4_lastStep cX4_lastStep 1 (some .int) :: ([.fieldLink RX4 35 "PhaseTones$Wheel" "sweeps" "I", .fieldLink RX4 18 "PhaseTones$Wheel" "ends" "[I", .fieldLink RX4 9 "PhaseTones$Wheel" "step" "I"] ++ wsX40)
def wsX4_goRound_r1 : List Cond := [Cond.fieldLink RX4 35 "PhaseTones$Wheel" "sweeps" "I", Cond.constant RX4 61 (70000), Cond.fieldLink RX4 25 "PhaseTones$Wheel" "phase" "I", Cond.fieldLink RX4 9 "PhaseTones$Wheel" "step" "I", Cond.constant RX4 65 (65535), Cond.methodLink RX4 62 yX4_goOn, Cond.instanceMethod yX4_goOn, Cond.selects RX4 yX4_goOn yX4_goOn, Cond.initialized RX4, Cond.code yX4_goOn cX4_goOn 1 none, Cond.constant RX4 53 (65536), Cond.methodLink RX4 54 yX4_goOnSweeping, Cond.instanceMethod yX4_goOnSweeping, Cond.selects RX4 yX4_goOnSweeping yX4_goOnSweeping, Cond.code yX4_goOnSweeping cX4_goOnSweeping 2 none, Cond.fieldLink RX4 22 "PhaseTones$Wheel" "lengths" "[I", Cond.fieldLink RX4 47 "PhaseTones$Wheel" "gone" "I", Cond.fieldLink RX4 44 "PhaseTones$Wheel" "begin" "I", Cond.fieldLink RX4 18 "PhaseTones$Wheel" "ends" "[I", Cond.methodLink RX4 57 yX4_dropFirstSweep, Cond.instanceMethod yX4_dropFirstSweep, Cond.selects RX4 yX4_dropFirstSweep yX4_dropFirstSweep, Cond.code yX4_dropFirstSweep cX4_dropFirstSweep 2 none, Cond.methodLink RX4 50 yX4_beginSweep]
def wsX4_goRound_r2 : List Cond := [Cond.instanceMethod yX4_beginSweep, Cond.selects RX4 yX4_beginSweep yX4_beginSweep, Cond.code yX4_beginSweep cX4_beginSweep 1 none]
def wsX4_goRound : List Cond := .code yX4_goRound cX4_goRound 3 (some .int) :: ((wsX4_goRound_r1 ++ wsX4_goRound_r2) ++ wsX40)
def wsX5_init_r1 : List Cond := [Cond.methodLink RX5 1 objectInit, Cond.instanceMethod objectInit, Cond.code objectInit ⟨#[0xb1]⟩ 1 none, Cond.classLink RX5 7 RX3, Cond.instantiable RX3 8, Cond.initialized RX3, Cond.fieldLink RX5 10 "PhaseTones" "now" "LPhaseTones$Sound;", Cond.fieldLink RX5 16 "PhaseTones" "trial" "LPhaseTones$Sound;", Cond.classLink RX5 19 RX0, Cond.instantiable RX0 3, Cond.initialized RX0, Cond.fieldLink RX5 22 "PhaseTones" "history" "LPhaseTones$History;", Cond.classLink RX5 26 RX2, Cond.instantiable RX2 2, Cond.initialized RX2, Cond.fieldLink RX5 29 "PhaseTones" "slots" "LPhaseTones$Slots;", Cond.classLink RX5 33 RX1, Cond.instantiable RX1 7, Cond.initialized RX1, Cond.fieldLink RX5 36 "PhaseTones" "pad" "LPhaseTones$Pad;", Cond.methodLink RX5 9 yX3_init, Cond.instanceMethod yX3_init, Cond.code yX3_init cX3_init 3 none, Cond.methodLink RX3 3 objectInit]
def wsX5_init_r2 : List Cond := [Cond.fieldLink RX3 9 "PhaseTones$Sound" "limit" "I", Cond.arrayClass .int, Cond.fieldLink RX3 15 "PhaseTones$Sound" "values" "[I", Cond.classLink RX3 19 RX4, Cond.fieldLink RX3 21 "PhaseTones$Sound" "wheels" "[LPhaseTones$Wheel;", Cond.fieldLink RX3 25 "PhaseTones$Sound" "latest" "[I", Cond.instantiable RX4 10, Cond.initialized RX4, Cond.fieldLink RX3 29 "PhaseTones$Wheel" "isOn" "Z", Cond.instanceMethod yX4_init, Cond.code yX4_init cX4_init 1 none, Cond.methodLink RX4 3 objectInit, Cond.fieldLink RX4 9 "PhaseTones$Wheel" "step" "I", Cond.fieldLink RX4 15 "PhaseTones$Wheel" "volume" "I", Cond.fieldLink RX4 18 "PhaseTones$Wheel" "ends" "[I", Cond.fieldLink RX4 22 "PhaseTones$Wheel" "lengths" "[I", Cond.methodLink RX5 21 yX0_init, Cond.instanceMethod yX0_init, Cond.code yX0_init cX0_init 2 none, Cond.methodLink RX0 3 objectInit, Cond.classLink RX0 9 RX3, Cond.fieldLink RX0 11 "PhaseTones$History" "states" "[LPhaseTones$Sound;", Cond.methodLink RX0 17 yX3_init, Cond.methodLink RX5 28 yX2_init]
def wsX5_init_r3 : List Cond := [Cond.instanceMethod yX2_init, Cond.code yX2_init cX2_init 2 none, Cond.methodLink RX2 3 objectInit, Cond.classLink RX2 9 RX3, Cond.fieldLink RX2 11 "PhaseTones$Slots" "sounds" "[LPhaseTones$Sound;", Cond.arrayClass .boolean, Cond.fieldLink RX2 17 "PhaseTones$Slots" "isSaved" "[Z", Cond.methodLink RX2 21 yX3_init, Cond.instanceMethod yX1_init, Cond.code yX1_init cX1_init 1 none, Cond.methodLink RX1 3 objectInit, Cond.arrayClass .char, Cond.fieldLink RX1 9 "PhaseTones$Pad" "text" "[C"]
def wsX5_init : List Cond := .code yX5_init cX5_init 1 none :: ((wsX5_init_r1 ++ (wsX5_init_r2 ++ wsX5_init_r3)) ++ wsX30 ++ wsX50 ++ wsX00 ++ wsX20 ++ wsX10 ++ wsX40)
def wsX5_clip_r1 : List Cond := [Cond.fieldLink RX5 22 "PhaseTones" "history" "LPhaseTones$History;", Cond.fieldLink RX5 10 "PhaseTones" "now" "LPhaseTones$Sound;", Cond.fieldLink RX5 48 "PhaseTones$Sound" "limit" "I", Cond.methodLink RX5 40 yX5_isOutside, Cond.static yX5_isOutside, Cond.initialized RX5, Cond.code yX5_isOutside cX5_isOutside 3 (some .boolean), Cond.methodLink RX5 44 yX0_keep, Cond.instanceMethod yX0_keep, Cond.selects RX0 yX0_keep yX0_keep, Cond.initialized RX0, Cond.code yX0_keep cX0_keep 2 none, Cond.fieldLink RX0 11 "PhaseTones$History" "states" "[LPhaseTones$Sound;", Cond.fieldLink RX0 18 "PhaseTones$History" "recorded" "I", Cond.fieldLink RX0 32 "PhaseTones$History" "kept" "I", Cond.methodLink RX0 35 Lib.Math.min.name, Cond.static Lib.Math.min.name, Cond.initialized "java/lang/Math", Cond.code Lib.Math.min.name Lib.Math.min.code 2 (some .int), Cond.methodLink RX0 22 yJ9_floorMod_7cf53, Cond.static yJ9_floorMod_7cf53, Cond.initialized RJ9, Cond.code yJ9_floorMod_7cf53 cJ9_floorMod_7cf53 3 (some .int), Cond.methodLink RX0 28 yX3_takeOver]
def wsX5_clip_r2 : List Cond := [Cond.instanceMethod yX3_takeOver, Cond.selects RX3 yX3_takeOver yX3_takeOver, Cond.initialized RX3, Cond.code yX3_takeOver cX3_takeOver 3 none, Cond.fieldLink RX3 9 "PhaseTones$Sound" "limit" "I", Cond.fieldLink RX3 15 "PhaseTones$Sound" "values" "[I", Cond.methodLink RX3 33 arraycopyName, Cond.native arraycopyName, Cond.static arraycopyName, Cond.initialized "java/lang/System", Cond.fieldLink RX3 21 "PhaseTones$Sound" "wheels" "[LPhaseTones$Wheel;", Cond.fieldLink RX3 43 "PhaseTones$Sound" "made" "I", Cond.fieldLink RX3 46 "PhaseTones$Sound" "clipped" "I", Cond.fieldLink RX3 49 "PhaseTones$Sound" "sum" "I", Cond.fieldLink RX3 52 "PhaseTones$Sound" "rises" "I", Cond.fieldLink RX3 25 "PhaseTones$Sound" "latest" "[I", Cond.methodLink RX3 39 yX4_takeOver, Cond.instanceMethod yX4_takeOver, Cond.selects RX4 yX4_takeOver yX4_takeOver, Cond.initialized RX4, Cond.code yX4_takeOver cX4_takeOver 2 none, Cond.fieldLink RX4 25 "PhaseTones$Wheel" "phase" "I", Cond.fieldLink RX4 9 "PhaseTones$Wheel" "step" "I", Cond.fieldLink RX4 28 "PhaseTones$Wheel" "table" "I"]
def wsX5_clip_r3 : List Cond := [Cond.fieldLink RX4 15 "PhaseTones$Wheel" "volume" "I", Cond.fieldLink RX4 31 "PhaseTones$Wheel" "isOn" "Z", Cond.fieldLink RX4 35 "PhaseTones$Wheel" "sweeps" "I", Cond.fieldLink RX4 18 "PhaseTones$Wheel" "ends" "[I", Cond.methodLink RX4 38 arraycopyName, Cond.fieldLink RX4 22 "PhaseTones$Wheel" "lengths" "[I", Cond.fieldLink RX4 44 "PhaseTones$Wheel" "begin" "I", Cond.fieldLink RX4 47 "PhaseTones$Wheel" "gone" "I"]
def wsX5_clip : List Cond := .code yX5_clip cX5_clip 3 (some .int) :: ((wsX5_clip_r1 ++ (wsX5_clip_r2 ++ wsX5_clip_r3)) ++ wsX50 ++ wsX30 ++ wsX00 ++ wsX40)
def wsX5_isNoTable : List Cond := .code yX5_isNoTable cX5_isNoTable 1 (some .boolean) :: ([.methodLink RX5 40 yX5_isOutside, .static yX5_isOutside, .initialized RX5, .code yX5_isOutside cX5_isOutside 3 (some .boolean)])
def wsX5_isNoPlace : List Cond := .code yX5_isNoPlace cX5_isNoPlace 1 (some .boolean) :: ([.methodLink RX5 40 yX5_isOutside, .static yX5_isOutside, .initialized RX5, .code yX5_isOutside cX5_isOutside 3 (some .boolean)])
def wsX5_fill_r1 : List Cond := [Cond.fieldLink RX5 22 "PhaseTones" "history" "LPhaseTones$History;", Cond.fieldLink RX5 10 "PhaseTones" "now" "LPhaseTones$Sound;", Cond.fieldLink RX5 59 "PhaseTones$Sound" "values" "[I", Cond.methodLink RX5 52 yX5_isNoTable, Cond.static yX5_isNoTable, Cond.initialized RX5, Cond.code yX5_isNoTable cX5_isNoTable 1 (some .boolean), Cond.methodLink RX5 40 yX5_isOutside, Cond.static yX5_isOutside, Cond.code yX5_isOutside cX5_isOutside 3 (some .boolean), Cond.methodLink RX5 56 yX5_isNoPlace, Cond.static yX5_isNoPlace, Cond.code yX5_isNoPlace cX5_isNoPlace 1 (some .boolean), Cond.methodLink RX5 44 yX0_keep, Cond.instanceMethod yX0_keep, Cond.selects RX0 yX0_keep yX0_keep, Cond.initialized RX0, Cond.code yX0_keep cX0_keep 2 none, Cond.fieldLink RX0 11 "PhaseTones$History" "states" "[LPhaseTones$Sound;", Cond.fieldLink RX0 18 "PhaseTones$History" "recorded" "I", Cond.fieldLink RX0 32 "PhaseTones$History" "kept" "I", Cond.methodLink RX0 35 Lib.Math.min.name, Cond.static Lib.Math.min.name, Cond.initialized "java/lang/Math"]
def wsX5_fill_r2 : List Cond := [Cond.code Lib.Math.min.name Lib.Math.min.code 2 (some .int), Cond.methodLink RX0 22 yJ9_floorMod_7cf53, Cond.static yJ9_floorMod_7cf53, Cond.initialized RJ9, Cond.code yJ9_floorMod_7cf53 cJ9_floorMod_7cf53 3 (some .int), Cond.methodLink RX0 28 yX3_takeOver, Cond.instanceMethod yX3_takeOver, Cond.selects RX3 yX3_takeOver yX3_takeOver, Cond.initialized RX3, Cond.code yX3_takeOver cX3_takeOver 3 none, Cond.fieldLink RX3 9 "PhaseTones$Sound" "limit" "I", Cond.fieldLink RX3 15 "PhaseTones$Sound" "values" "[I", Cond.methodLink RX3 33 arraycopyName, Cond.native arraycopyName, Cond.static arraycopyName, Cond.initialized "java/lang/System", Cond.fieldLink RX3 21 "PhaseTones$Sound" "wheels" "[LPhaseTones$Wheel;", Cond.fieldLink RX3 43 "PhaseTones$Sound" "made" "I", Cond.fieldLink RX3 46 "PhaseTones$Sound" "clipped" "I", Cond.fieldLink RX3 49 "PhaseTones$Sound" "sum" "I", Cond.fieldLink RX3 52 "PhaseTones$Sound" "rises" "I", Cond.fieldLink RX3 25 "PhaseTones$Sound" "latest" "[I", Cond.methodLink RX3 39 yX4_takeOver, Cond.instanceMethod yX4_takeOver]
def wsX5_fill_r3 : List Cond := [Cond.selects RX4 yX4_takeOver yX4_takeOver, Cond.initialized RX4, Cond.code yX4_takeOver cX4_takeOver 2 none, Cond.fieldLink RX4 25 "PhaseTones$Wheel" "phase" "I", Cond.fieldLink RX4 9 "PhaseTones$Wheel" "step" "I", Cond.fieldLink RX4 28 "PhaseTones$Wheel" "table" "I", Cond.fieldLink RX4 15 "PhaseTones$Wheel" "volume" "I", Cond.fieldLink RX4 31 "PhaseTones$Wheel" "isOn" "Z", Cond.fieldLink RX4 35 "PhaseTones$Wheel" "sweeps" "I", Cond.fieldLink RX4 18 "PhaseTones$Wheel" "ends" "[I", Cond.methodLink RX4 38 arraycopyName, Cond.fieldLink RX4 22 "PhaseTones$Wheel" "lengths" "[I", Cond.fieldLink RX4 44 "PhaseTones$Wheel" "begin" "I", Cond.fieldLink RX4 47 "PhaseTones$Wheel" "gone" "I"]
def wsX5_fill : List Cond := .code yX5_fill cX5_fill 6 (some .int) :: ((wsX5_fill_r1 ++ (wsX5_fill_r2 ++ wsX5_fill_r3)) ++ wsX50 ++ wsX30 ++ wsX00 ++ wsX40)
def wsX5_isNoWheel : List Cond := .code yX5_isNoWheel cX5_isNoWheel 1 (some .boolean) :: ([.methodLink RX5 40 yX5_isOutside, .static yX5_isOutside, .initialized RX5, .code yX5_isOutside cX5_isOutside 3 (some .boolean)])
def wsX5_step_r1 : List Cond := [Cond.constant RX5 66 (65535), Cond.fieldLink RX5 22 "PhaseTones" "history" "LPhaseTones$History;", Cond.fieldLink RX5 10 "PhaseTones" "now" "LPhaseTones$Sound;", Cond.fieldLink RX5 67 "PhaseTones$Sound" "wheels" "[LPhaseTones$Wheel;", Cond.fieldLink RX5 71 "PhaseTones$Wheel" "step" "I", Cond.methodLink RX5 63 yX5_isNoWheel, Cond.static yX5_isNoWheel, Cond.initialized RX5, Cond.code yX5_isNoWheel cX5_isNoWheel 1 (some .boolean), Cond.methodLink RX5 40 yX5_isOutside, Cond.static yX5_isOutside, Cond.code yX5_isOutside cX5_isOutside 3 (some .boolean), Cond.methodLink RX5 44 yX0_keep, Cond.instanceMethod yX0_keep, Cond.selects RX0 yX0_keep yX0_keep, Cond.initialized RX0, Cond.code yX0_keep cX0_keep 2 none, Cond.fieldLink RX0 11 "PhaseTones$History" "states" "[LPhaseTones$Sound;", Cond.fieldLink RX0 18 "PhaseTones$History" "recorded" "I", Cond.fieldLink RX0 32 "PhaseTones$History" "kept" "I", Cond.methodLink RX0 35 Lib.Math.min.name, Cond.static Lib.Math.min.name, Cond.initialized "java/lang/Math", Cond.code Lib.Math.min.name Lib.Math.min.code 2 (some .int)]
def wsX5_step_r2 : List Cond := [Cond.methodLink RX0 22 yJ9_floorMod_7cf53, Cond.static yJ9_floorMod_7cf53, Cond.initialized RJ9, Cond.code yJ9_floorMod_7cf53 cJ9_floorMod_7cf53 3 (some .int), Cond.methodLink RX0 28 yX3_takeOver, Cond.instanceMethod yX3_takeOver, Cond.selects RX3 yX3_takeOver yX3_takeOver, Cond.initialized RX3, Cond.code yX3_takeOver cX3_takeOver 3 none, Cond.fieldLink RX3 9 "PhaseTones$Sound" "limit" "I", Cond.fieldLink RX3 15 "PhaseTones$Sound" "values" "[I", Cond.methodLink RX3 33 arraycopyName, Cond.native arraycopyName, Cond.static arraycopyName, Cond.initialized "java/lang/System", Cond.fieldLink RX3 21 "PhaseTones$Sound" "wheels" "[LPhaseTones$Wheel;", Cond.fieldLink RX3 43 "PhaseTones$Sound" "made" "I", Cond.fieldLink RX3 46 "PhaseTones$Sound" "clipped" "I", Cond.fieldLink RX3 49 "PhaseTones$Sound" "sum" "I", Cond.fieldLink RX3 52 "PhaseTones$Sound" "rises" "I", Cond.fieldLink RX3 25 "PhaseTones$Sound" "latest" "[I", Cond.methodLink RX3 39 yX4_takeOver, Cond.instanceMethod yX4_takeOver, Cond.selects RX4 yX4_takeOver yX4_takeOver]
def wsX5_step_r3 : List Cond := [Cond.initialized RX4, Cond.code yX4_takeOver cX4_takeOver 2 none, Cond.fieldLink RX4 25 "PhaseTones$Wheel" "phase" "I", Cond.fieldLink RX4 9 "PhaseTones$Wheel" "step" "I", Cond.fieldLink RX4 28 "PhaseTones$Wheel" "table" "I", Cond.fieldLink RX4 15 "PhaseTones$Wheel" "volume" "I", Cond.fieldLink RX4 31 "PhaseTones$Wheel" "isOn" "Z", Cond.fieldLink RX4 35 "PhaseTones$Wheel" "sweeps" "I", Cond.fieldLink RX4 18 "PhaseTones$Wheel" "ends" "[I", Cond.methodLink RX4 38 arraycopyName, Cond.fieldLink RX4 22 "PhaseTones$Wheel" "lengths" "[I", Cond.fieldLink RX4 44 "PhaseTones$Wheel" "begin" "I", Cond.fieldLink RX4 47 "PhaseTones$Wheel" "gone" "I", Cond.methodLink RX5 76 yX4_changeStep, Cond.instanceMethod yX4_changeStep, Cond.selects RX4 yX4_changeStep yX4_changeStep, Cond.code yX4_changeStep cX4_changeStep 2 none]
def wsX5_step : List Cond := .code yX5_step cX5_step 4 (some .int) :: ((wsX5_step_r1 ++ (wsX5_step_r2 ++ wsX5_step_r3)) ++ wsX50 ++ wsX30 ++ wsX40 ++ wsX00)
def wsX5_table_r1 : List Cond := [Cond.fieldLink RX5 22 "PhaseTones" "history" "LPhaseTones$History;", Cond.fieldLink RX5 10 "PhaseTones" "now" "LPhaseTones$Sound;", Cond.fieldLink RX5 67 "PhaseTones$Sound" "wheels" "[LPhaseTones$Wheel;", Cond.fieldLink RX5 80 "PhaseTones$Wheel" "table" "I", Cond.methodLink RX5 63 yX5_isNoWheel, Cond.static yX5_isNoWheel, Cond.initialized RX5, Cond.code yX5_isNoWheel cX5_isNoWheel 1 (some .boolean), Cond.methodLink RX5 40 yX5_isOutside, Cond.static yX5_isOutside, Cond.code yX5_isOutside cX5_isOutside 3 (some .boolean), Cond.methodLink RX5 52 yX5_isNoTable, Cond.static yX5_isNoTable, Cond.code yX5_isNoTable cX5_isNoTable 1 (some .boolean), Cond.methodLink RX5 44 yX0_keep, Cond.instanceMethod yX0_keep, Cond.selects RX0 yX0_keep yX0_keep, Cond.initialized RX0, Cond.code yX0_keep cX0_keep 2 none, Cond.fieldLink RX0 11 "PhaseTones$History" "states" "[LPhaseTones$Sound;", Cond.fieldLink RX0 18 "PhaseTones$History" "recorded" "I", Cond.fieldLink RX0 32 "PhaseTones$History" "kept" "I", Cond.methodLink RX0 35 Lib.Math.min.name, Cond.static Lib.Math.min.name]
def wsX5_table_r2 : List Cond := [Cond.initialized "java/lang/Math", Cond.code Lib.Math.min.name Lib.Math.min.code 2 (some .int), Cond.methodLink RX0 22 yJ9_floorMod_7cf53, Cond.static yJ9_floorMod_7cf53, Cond.initialized RJ9, Cond.code yJ9_floorMod_7cf53 cJ9_floorMod_7cf53 3 (some .int), Cond.methodLink RX0 28 yX3_takeOver, Cond.instanceMethod yX3_takeOver, Cond.selects RX3 yX3_takeOver yX3_takeOver, Cond.initialized RX3, Cond.code yX3_takeOver cX3_takeOver 3 none, Cond.fieldLink RX3 9 "PhaseTones$Sound" "limit" "I", Cond.fieldLink RX3 15 "PhaseTones$Sound" "values" "[I", Cond.methodLink RX3 33 arraycopyName, Cond.native arraycopyName, Cond.static arraycopyName, Cond.initialized "java/lang/System", Cond.fieldLink RX3 21 "PhaseTones$Sound" "wheels" "[LPhaseTones$Wheel;", Cond.fieldLink RX3 43 "PhaseTones$Sound" "made" "I", Cond.fieldLink RX3 46 "PhaseTones$Sound" "clipped" "I", Cond.fieldLink RX3 49 "PhaseTones$Sound" "sum" "I", Cond.fieldLink RX3 52 "PhaseTones$Sound" "rises" "I", Cond.fieldLink RX3 25 "PhaseTones$Sound" "latest" "[I", Cond.methodLink RX3 39 yX4_takeOver]
def wsX5_table_r3 : List Cond := [Cond.instanceMethod yX4_takeOver, Cond.selects RX4 yX4_takeOver yX4_takeOver, Cond.initialized RX4, Cond.code yX4_takeOver cX4_takeOver 2 none, Cond.fieldLink RX4 25 "PhaseTones$Wheel" "phase" "I", Cond.fieldLink RX4 9 "PhaseTones$Wheel" "step" "I", Cond.fieldLink RX4 28 "PhaseTones$Wheel" "table" "I", Cond.fieldLink RX4 15 "PhaseTones$Wheel" "volume" "I", Cond.fieldLink RX4 31 "PhaseTones$Wheel" "isOn" "Z", Cond.fieldLink RX4 35 "PhaseTones$Wheel" "sweeps" "I", Cond.fieldLink RX4 18 "PhaseTones$Wheel" "ends" "[I", Cond.methodLink RX4 38 arraycopyName, Cond.fieldLink RX4 22 "PhaseTones$Wheel" "lengths" "[I", Cond.fieldLink RX4 44 "PhaseTones$Wheel" "begin" "I", Cond.fieldLink RX4 47 "PhaseTones$Wheel" "gone" "I"]
def wsX5_table : List Cond := .code yX5_table cX5_table 4 (some .int) :: ((wsX5_table_r1 ++ (wsX5_table_r2 ++ wsX5_table_r3)) ++ wsX50 ++ wsX30 ++ wsX40 ++ wsX00)
def wsX5_volume_r1 : List Cond := [Cond.fieldLink RX5 22 "PhaseTones" "history" "LPhaseTones$History;", Cond.fieldLink RX5 10 "PhaseTones" "now" "LPhaseTones$Sound;", Cond.fieldLink RX5 67 "PhaseTones$Sound" "wheels" "[LPhaseTones$Wheel;", Cond.fieldLink RX5 83 "PhaseTones$Wheel" "volume" "I", Cond.methodLink RX5 63 yX5_isNoWheel, Cond.static yX5_isNoWheel, Cond.initialized RX5, Cond.code yX5_isNoWheel cX5_isNoWheel 1 (some .boolean), Cond.methodLink RX5 40 yX5_isOutside, Cond.static yX5_isOutside, Cond.code yX5_isOutside cX5_isOutside 3 (some .boolean), Cond.methodLink RX5 44 yX0_keep, Cond.instanceMethod yX0_keep, Cond.selects RX0 yX0_keep yX0_keep, Cond.initialized RX0, Cond.code yX0_keep cX0_keep 2 none, Cond.fieldLink RX0 11 "PhaseTones$History" "states" "[LPhaseTones$Sound;", Cond.fieldLink RX0 18 "PhaseTones$History" "recorded" "I", Cond.fieldLink RX0 32 "PhaseTones$History" "kept" "I", Cond.methodLink RX0 35 Lib.Math.min.name, Cond.static Lib.Math.min.name, Cond.initialized "java/lang/Math", Cond.code Lib.Math.min.name Lib.Math.min.code 2 (some .int), Cond.methodLink RX0 22 yJ9_floorMod_7cf53]
def wsX5_volume_r2 : List Cond := [Cond.static yJ9_floorMod_7cf53, Cond.initialized RJ9, Cond.code yJ9_floorMod_7cf53 cJ9_floorMod_7cf53 3 (some .int), Cond.methodLink RX0 28 yX3_takeOver, Cond.instanceMethod yX3_takeOver, Cond.selects RX3 yX3_takeOver yX3_takeOver, Cond.initialized RX3, Cond.code yX3_takeOver cX3_takeOver 3 none, Cond.fieldLink RX3 9 "PhaseTones$Sound" "limit" "I", Cond.fieldLink RX3 15 "PhaseTones$Sound" "values" "[I", Cond.methodLink RX3 33 arraycopyName, Cond.native arraycopyName, Cond.static arraycopyName, Cond.initialized "java/lang/System", Cond.fieldLink RX3 21 "PhaseTones$Sound" "wheels" "[LPhaseTones$Wheel;", Cond.fieldLink RX3 43 "PhaseTones$Sound" "made" "I", Cond.fieldLink RX3 46 "PhaseTones$Sound" "clipped" "I", Cond.fieldLink RX3 49 "PhaseTones$Sound" "sum" "I", Cond.fieldLink RX3 52 "PhaseTones$Sound" "rises" "I", Cond.fieldLink RX3 25 "PhaseTones$Sound" "latest" "[I", Cond.methodLink RX3 39 yX4_takeOver, Cond.instanceMethod yX4_takeOver, Cond.selects RX4 yX4_takeOver yX4_takeOver, Cond.initialized RX4]
def wsX5_volume_r3 : List Cond := [Cond.code yX4_takeOver cX4_takeOver 2 none, Cond.fieldLink RX4 25 "PhaseTones$Wheel" "phase" "I", Cond.fieldLink RX4 9 "PhaseTones$Wheel" "step" "I", Cond.fieldLink RX4 28 "PhaseTones$Wheel" "table" "I", Cond.fieldLink RX4 15 "PhaseTones$Wheel" "volume" "I", Cond.fieldLink RX4 31 "PhaseTones$Wheel" "isOn" "Z", Cond.fieldLink RX4 35 "PhaseTones$Wheel" "sweeps" "I", Cond.fieldLink RX4 18 "PhaseTones$Wheel" "ends" "[I", Cond.methodLink RX4 38 arraycopyName, Cond.fieldLink RX4 22 "PhaseTones$Wheel" "lengths" "[I", Cond.fieldLink RX4 44 "PhaseTones$Wheel" "begin" "I", Cond.fieldLink RX4 47 "PhaseTones$Wheel" "gone" "I"]
def wsX5_volume : List Cond := .code yX5_volume cX5_volume 4 (some .int) :: ((wsX5_volume_r1 ++ (wsX5_volume_r2 ++ wsX5_volume_r3)) ++ wsX50 ++ wsX30 ++ wsX40 ++ wsX00)
def wsJ6_bitCount_0f7a4 : List Cond := .code yJ6_bitCount_0f7a4 cJ6_bitCount_0f7a4 1 (some .int) :: ([.constant RJ6 265 (1431655765), .constant RJ6 266 (858993459), .constant RJ6 267 (252645135)])
def wsX5_turn_r1 : List Cond := [Cond.fieldLink RX5 10 "PhaseTones" "now" "LPhaseTones$Sound;", Cond.fieldLink RX5 67 "PhaseTones$Sound" "wheels" "[LPhaseTones$Wheel;", Cond.fieldLink RX5 86 "PhaseTones$Wheel" "isOn" "Z", Cond.fieldLink RX5 22 "PhaseTones" "history" "LPhaseTones$History;", Cond.methodLink RX5 63 yX5_isNoWheel, Cond.static yX5_isNoWheel, Cond.initialized RX5, Cond.code yX5_isNoWheel cX5_isNoWheel 1 (some .boolean), Cond.methodLink RX5 40 yX5_isOutside, Cond.static yX5_isOutside, Cond.code yX5_isOutside cX5_isOutside 3 (some .boolean), Cond.methodLink RX5 44 yX0_keep, Cond.instanceMethod yX0_keep, Cond.selects RX0 yX0_keep yX0_keep, Cond.initialized RX0, Cond.code yX0_keep cX0_keep 2 none, Cond.fieldLink RX0 11 "PhaseTones$History" "states" "[LPhaseTones$Sound;", Cond.fieldLink RX0 18 "PhaseTones$History" "recorded" "I", Cond.fieldLink RX0 32 "PhaseTones$History" "kept" "I", Cond.methodLink RX0 35 Lib.Math.min.name, Cond.static Lib.Math.min.name, Cond.initialized "java/lang/Math", Cond.code Lib.Math.min.name Lib.Math.min.code 2 (some .int), Cond.methodLink RX0 22 yJ9_floorMod_7cf53]
def wsX5_turn_r2 : List Cond := [Cond.static yJ9_floorMod_7cf53, Cond.initialized RJ9, Cond.code yJ9_floorMod_7cf53 cJ9_floorMod_7cf53 3 (some .int), Cond.methodLink RX0 28 yX3_takeOver, Cond.instanceMethod yX3_takeOver, Cond.selects RX3 yX3_takeOver yX3_takeOver, Cond.initialized RX3, Cond.code yX3_takeOver cX3_takeOver 3 none, Cond.fieldLink RX3 9 "PhaseTones$Sound" "limit" "I", Cond.fieldLink RX3 15 "PhaseTones$Sound" "values" "[I", Cond.methodLink RX3 33 arraycopyName, Cond.native arraycopyName, Cond.static arraycopyName, Cond.initialized "java/lang/System", Cond.fieldLink RX3 21 "PhaseTones$Sound" "wheels" "[LPhaseTones$Wheel;", Cond.fieldLink RX3 43 "PhaseTones$Sound" "made" "I", Cond.fieldLink RX3 46 "PhaseTones$Sound" "clipped" "I", Cond.fieldLink RX3 49 "PhaseTones$Sound" "sum" "I", Cond.fieldLink RX3 52 "PhaseTones$Sound" "rises" "I", Cond.fieldLink RX3 25 "PhaseTones$Sound" "latest" "[I", Cond.methodLink RX3 39 yX4_takeOver, Cond.instanceMethod yX4_takeOver, Cond.selects RX4 yX4_takeOver yX4_takeOver, Cond.initialized RX4]
def wsX5_turn_r3 : List Cond := [Cond.code yX4_takeOver cX4_takeOver 2 none, Cond.fieldLink RX4 25 "PhaseTones$Wheel" "phase" "I", Cond.fieldLink RX4 9 "PhaseTones$Wheel" "step" "I", Cond.fieldLink RX4 28 "PhaseTones$Wheel" "table" "I", Cond.fieldLink RX4 15 "PhaseTones$Wheel" "volume" "I", Cond.fieldLink RX4 31 "PhaseTones$Wheel" "isOn" "Z", Cond.fieldLink RX4 35 "PhaseTones$Wheel" "sweeps" "I", Cond.fieldLink RX4 18 "PhaseTones$Wheel" "ends" "[I", Cond.methodLink RX4 38 arraycopyName, Cond.fieldLink RX4 22 "PhaseTones$Wheel" "lengths" "[I", Cond.fieldLink RX4 44 "PhaseTones$Wheel" "begin" "I", Cond.fieldLink RX4 47 "PhaseTones$Wheel" "gone" "I", Cond.methodLink RX5 90 yX3_maskOfOn, Cond.instanceMethod yX3_maskOfOn, Cond.selects RX3 yX3_maskOfOn yX3_maskOfOn, Cond.code yX3_maskOfOn cX3_maskOfOn 3 (some .int), Cond.fieldLink RX3 29 "PhaseTones$Wheel" "isOn" "Z", Cond.methodLink RX5 94 yJ6_bitCount_0f7a4, Cond.static yJ6_bitCount_0f7a4, Cond.initialized RJ6, Cond.code yJ6_bitCount_0f7a4 cJ6_bitCount_0f7a4 1 (some .int), Cond.constant RJ6 265 (1431655765), Cond.constant RJ6 266 (858993459), Cond.constant RJ6 267 (252645135)]
def wsX5_turn : List Cond := .code yX5_turn cX5_turn 3 (some .int) :: ((wsX5_turn_r1 ++ (wsX5_turn_r2 ++ wsX5_turn_r3)) ++ wsX50 ++ wsX30 ++ wsX40 ++ wsX00)
def wsX5_phase_r1 : List Cond := [Cond.constant RX5 66 (65535), Cond.fieldLink RX5 22 "PhaseTones" "history" "LPhaseTones$History;", Cond.fieldLink RX5 10 "PhaseTones" "now" "LPhaseTones$Sound;", Cond.fieldLink RX5 67 "PhaseTones$Sound" "wheels" "[LPhaseTones$Wheel;", Cond.fieldLink RX5 100 "PhaseTones$Wheel" "phase" "I", Cond.methodLink RX5 63 yX5_isNoWheel, Cond.static yX5_isNoWheel, Cond.initialized RX5, Cond.code yX5_isNoWheel cX5_isNoWheel 1 (some .boolean), Cond.methodLink RX5 40 yX5_isOutside, Cond.static yX5_isOutside, Cond.code yX5_isOutside cX5_isOutside 3 (some .boolean), Cond.methodLink RX5 44 yX0_keep, Cond.instanceMethod yX0_keep, Cond.selects RX0 yX0_keep yX0_keep, Cond.initialized RX0, Cond.code yX0_keep cX0_keep 2 none, Cond.fieldLink RX0 11 "PhaseTones$History" "states" "[LPhaseTones$Sound;", Cond.fieldLink RX0 18 "PhaseTones$History" "recorded" "I", Cond.fieldLink RX0 32 "PhaseTones$History" "kept" "I", Cond.methodLink RX0 35 Lib.Math.min.name, Cond.static Lib.Math.min.name, Cond.initialized "java/lang/Math", Cond.code Lib.Math.min.name Lib.Math.min.code 2 (some .int)]
def wsX5_phase_r2 : List Cond := [Cond.methodLink RX0 22 yJ9_floorMod_7cf53, Cond.static yJ9_floorMod_7cf53, Cond.initialized RJ9, Cond.code yJ9_floorMod_7cf53 cJ9_floorMod_7cf53 3 (some .int), Cond.methodLink RX0 28 yX3_takeOver, Cond.instanceMethod yX3_takeOver, Cond.selects RX3 yX3_takeOver yX3_takeOver, Cond.initialized RX3, Cond.code yX3_takeOver cX3_takeOver 3 none, Cond.fieldLink RX3 9 "PhaseTones$Sound" "limit" "I", Cond.fieldLink RX3 15 "PhaseTones$Sound" "values" "[I", Cond.methodLink RX3 33 arraycopyName, Cond.native arraycopyName, Cond.static arraycopyName, Cond.initialized "java/lang/System", Cond.fieldLink RX3 21 "PhaseTones$Sound" "wheels" "[LPhaseTones$Wheel;", Cond.fieldLink RX3 43 "PhaseTones$Sound" "made" "I", Cond.fieldLink RX3 46 "PhaseTones$Sound" "clipped" "I", Cond.fieldLink RX3 49 "PhaseTones$Sound" "sum" "I", Cond.fieldLink RX3 52 "PhaseTones$Sound" "rises" "I", Cond.fieldLink RX3 25 "PhaseTones$Sound" "latest" "[I", Cond.methodLink RX3 39 yX4_takeOver, Cond.instanceMethod yX4_takeOver, Cond.selects RX4 yX4_takeOver yX4_takeOver]
def wsX5_phase_r3 : List Cond := [Cond.initialized RX4, Cond.code yX4_takeOver cX4_takeOver 2 none, Cond.fieldLink RX4 25 "PhaseTones$Wheel" "phase" "I", Cond.fieldLink RX4 9 "PhaseTones$Wheel" "step" "I", Cond.fieldLink RX4 28 "PhaseTones$Wheel" "table" "I", Cond.fieldLink RX4 15 "PhaseTones$Wheel" "volume" "I", Cond.fieldLink RX4 31 "PhaseTones$Wheel" "isOn" "Z", Cond.fieldLink RX4 35 "PhaseTones$Wheel" "sweeps" "I", Cond.fieldLink RX4 18 "PhaseTones$Wheel" "ends" "[I", Cond.methodLink RX4 38 arraycopyName, Cond.fieldLink RX4 22 "PhaseTones$Wheel" "lengths" "[I", Cond.fieldLink RX4 44 "PhaseTones$Wheel" "begin" "I", Cond.fieldLink RX4 47 "PhaseTones$Wheel" "gone" "I"]
def wsX5_phase : List Cond := .code yX5_phase cX5_phase 4 (some .int) :: ((wsX5_phase_r1 ++ (wsX5_phase_r2 ++ wsX5_phase_r3)) ++ wsX50 ++ wsX30 ++ wsX40 ++ wsX00)
def wsX5_sweep_r1 : List Cond := [Cond.constant RX5 66 (65535), Cond.fieldLink RX5 10 "PhaseTones" "now" "LPhaseTones$Sound;", Cond.fieldLink RX5 67 "PhaseTones$Sound" "wheels" "[LPhaseTones$Wheel;", Cond.fieldLink RX5 103 "PhaseTones$Wheel" "sweeps" "I", Cond.fieldLink RX5 22 "PhaseTones" "history" "LPhaseTones$History;", Cond.methodLink RX5 63 yX5_isNoWheel, Cond.static yX5_isNoWheel, Cond.initialized RX5, Cond.code yX5_isNoWheel cX5_isNoWheel 1 (some .boolean), Cond.methodLink RX5 40 yX5_isOutside, Cond.static yX5_isOutside, Cond.code yX5_isOutside cX5_isOutside 3 (some .boolean), Cond.methodLink RX5 44 yX0_keep, Cond.instanceMethod yX0_keep, Cond.selects RX0 yX0_keep yX0_keep, Cond.initialized RX0, Cond.code yX0_keep cX0_keep 2 none, Cond.fieldLink RX0 11 "PhaseTones$History" "states" "[LPhaseTones$Sound;", Cond.fieldLink RX0 18 "PhaseTones$History" "recorded" "I", Cond.fieldLink RX0 32 "PhaseTones$History" "kept" "I", Cond.methodLink RX0 35 Lib.Math.min.name, Cond.static Lib.Math.min.name, Cond.initialized "java/lang/Math", Cond.code Lib.Math.min.name Lib.Math.min.code 2 (some .int)]
def wsX5_sweep_r2 : List Cond := [Cond.methodLink RX0 22 yJ9_floorMod_7cf53, Cond.static yJ9_floorMod_7cf53, Cond.initialized RJ9, Cond.code yJ9_floorMod_7cf53 cJ9_floorMod_7cf53 3 (some .int), Cond.methodLink RX0 28 yX3_takeOver, Cond.instanceMethod yX3_takeOver, Cond.selects RX3 yX3_takeOver yX3_takeOver, Cond.initialized RX3, Cond.code yX3_takeOver cX3_takeOver 3 none, Cond.fieldLink RX3 9 "PhaseTones$Sound" "limit" "I", Cond.fieldLink RX3 15 "PhaseTones$Sound" "values" "[I", Cond.methodLink RX3 33 arraycopyName, Cond.native arraycopyName, Cond.static arraycopyName, Cond.initialized "java/lang/System", Cond.fieldLink RX3 21 "PhaseTones$Sound" "wheels" "[LPhaseTones$Wheel;", Cond.fieldLink RX3 43 "PhaseTones$Sound" "made" "I", Cond.fieldLink RX3 46 "PhaseTones$Sound" "clipped" "I", Cond.fieldLink RX3 49 "PhaseTones$Sound" "sum" "I", Cond.fieldLink RX3 52 "PhaseTones$Sound" "rises" "I", Cond.fieldLink RX3 25 "PhaseTones$Sound" "latest" "[I", Cond.methodLink RX3 39 yX4_takeOver, Cond.instanceMethod yX4_takeOver, Cond.selects RX4 yX4_takeOver yX4_takeOver]
def wsX5_sweep_r3 : List Cond := [Cond.initialized RX4, Cond.code yX4_takeOver cX4_takeOver 2 none, Cond.fieldLink RX4 25 "PhaseTones$Wheel" "phase" "I", Cond.fieldLink RX4 9 "PhaseTones$Wheel" "step" "I", Cond.fieldLink RX4 28 "PhaseTones$Wheel" "table" "I", Cond.fieldLink RX4 15 "PhaseTones$Wheel" "volume" "I", Cond.fieldLink RX4 31 "PhaseTones$Wheel" "isOn" "Z", Cond.fieldLink RX4 35 "PhaseTones$Wheel" "sweeps" "I", Cond.fieldLink RX4 18 "PhaseTones$Wheel" "ends" "[I", Cond.methodLink RX4 38 arraycopyName, Cond.fieldLink RX4 22 "PhaseTones$Wheel" "lengths" "[I", Cond.fieldLink RX4 44 "PhaseTones$Wheel" "begin" "I", Cond.fieldLink RX4 47 "PhaseTones$Wheel" "gone" "I", Cond.methodLink RX5 106 yX4_addSweep, Cond.instanceMethod yX4_addSweep, Cond.selects RX4 yX4_addSweep yX4_addSweep, Cond.code yX4_addSweep cX4_addSweep 3 (some .boolean), Cond.methodLink RX4 50 yX4_beginSweep, Cond.instanceMethod yX4_beginSweep, Cond.selects RX4 yX4_beginSweep yX4_beginSweep, Cond.code yX4_beginSweep cX4_beginSweep 1 none]
def wsX5_sweep : List Cond := .code yX5_sweep cX5_sweep 4 (some .int) :: ((wsX5_sweep_r1 ++ (wsX5_sweep_r2 ++ wsX5_sweep_r3)) ++ wsX50 ++ wsX30 ++ wsX40 ++ wsX00)
def wsX5_make_r1 : List Cond := [Cond.fieldLink RX5 10 "PhaseTones" "now" "LPhaseTones$Sound;", Cond.fieldLink RX5 22 "PhaseTones" "history" "LPhaseTones$History;", Cond.methodLink RX5 40 yX5_isOutside, Cond.static yX5_isOutside, Cond.initialized RX5, Cond.code yX5_isOutside cX5_isOutside 3 (some .boolean), Cond.methodLink RX5 110 yX3_hasNoRoomFor, Cond.instanceMethod yX3_hasNoRoomFor, Cond.selects RX3 yX3_hasNoRoomFor yX3_hasNoRoomFor, Cond.initialized RX3, Cond.code yX3_hasNoRoomFor cX3_hasNoRoomFor 2 (some .boolean), Cond.constant RX3 78 (999999), Cond.fieldLink RX3 43 "PhaseTones$Sound" "made" "I", Cond.methodLink RX5 44 yX0_keep, Cond.instanceMethod yX0_keep, Cond.selects RX0 yX0_keep yX0_keep, Cond.initialized RX0, Cond.code yX0_keep cX0_keep 2 none, Cond.fieldLink RX0 11 "PhaseTones$History" "states" "[LPhaseTones$Sound;", Cond.fieldLink RX0 18 "PhaseTones$History" "recorded" "I", Cond.fieldLink RX0 32 "PhaseTones$History" "kept" "I", Cond.methodLink RX0 35 Lib.Math.min.name, Cond.static Lib.Math.min.name, Cond.initialized "java/lang/Math"]
def wsX5_make_r2 : List Cond := [Cond.code Lib.Math.min.name Lib.Math.min.code 2 (some .int), Cond.methodLink RX0 22 yJ9_floorMod_7cf53, Cond.static yJ9_floorMod_7cf53, Cond.initialized RJ9, Cond.code yJ9_floorMod_7cf53 cJ9_floorMod_7cf53 3 (some .int), Cond.methodLink RX0 28 yX3_takeOver, Cond.instanceMethod yX3_takeOver, Cond.selects RX3 yX3_takeOver yX3_takeOver, Cond.code yX3_takeOver cX3_takeOver 3 none, Cond.fieldLink RX3 9 "PhaseTones$Sound" "limit" "I", Cond.fieldLink RX3 15 "PhaseTones$Sound" "values" "[I", Cond.methodLink RX3 33 arraycopyName, Cond.native arraycopyName, Cond.static arraycopyName, Cond.initialized "java/lang/System", Cond.fieldLink RX3 21 "PhaseTones$Sound" "wheels" "[LPhaseTones$Wheel;", Cond.fieldLink RX3 46 "PhaseTones$Sound" "clipped" "I", Cond.fieldLink RX3 49 "PhaseTones$Sound" "sum" "I", Cond.fieldLink RX3 52 "PhaseTones$Sound" "rises" "I", Cond.fieldLink RX3 25 "PhaseTones$Sound" "latest" "[I", Cond.methodLink RX3 39 yX4_takeOver, Cond.instanceMethod yX4_takeOver, Cond.selects RX4 yX4_takeOver yX4_takeOver, Cond.initialized RX4]
def wsX5_make_r3 : List Cond := [Cond.code yX4_takeOver cX4_takeOver 2 none, Cond.fieldLink RX4 25 "PhaseTones$Wheel" "phase" "I", Cond.fieldLink RX4 9 "PhaseTones$Wheel" "step" "I", Cond.fieldLink RX4 28 "PhaseTones$Wheel" "table" "I", Cond.fieldLink RX4 15 "PhaseTones$Wheel" "volume" "I", Cond.fieldLink RX4 31 "PhaseTones$Wheel" "isOn" "Z", Cond.fieldLink RX4 35 "PhaseTones$Wheel" "sweeps" "I", Cond.fieldLink RX4 18 "PhaseTones$Wheel" "ends" "[I", Cond.methodLink RX4 38 arraycopyName, Cond.fieldLink RX4 22 "PhaseTones$Wheel" "lengths" "[I", Cond.fieldLink RX4 44 "PhaseTones$Wheel" "begin" "I", Cond.fieldLink RX4 47 "PhaseTones$Wheel" "gone" "I", Cond.methodLink RX5 113 yX3_makeSome, Cond.instanceMethod yX3_makeSome, Cond.selects RX3 yX3_makeSome yX3_makeSome, Cond.code yX3_makeSome cX3_makeSome 3 (some .boolean), Cond.methodLink RX3 79 yX3_hasNoRoomFor, Cond.methodLink RX3 83 yX3_makeOne, Cond.instanceMethod yX3_makeOne, Cond.selects RX3 yX3_makeOne yX3_makeOne, Cond.code yX3_makeOne cX3_makeOne 3 none, Cond.methodLink RX3 89 Lib.Math.min.name, Cond.fieldLink RX3 29 "PhaseTones$Wheel" "isOn" "Z", Cond.methodLink RX3 86 yX3_sumOfOn]
def wsX5_make_r4 : List Cond := [Cond.instanceMethod yX3_sumOfOn, Cond.selects RX3 yX3_sumOfOn yX3_sumOfOn, Cond.code yX3_sumOfOn cX3_sumOfOn 3 (some .int), Cond.methodLink RX3 64 yX3_valueGivenBy, Cond.instanceMethod yX3_valueGivenBy, Cond.selects RX3 yX3_valueGivenBy yX3_valueGivenBy, Cond.code yX3_valueGivenBy cX3_valueGivenBy 3 (some .int), Cond.fieldLink RX3 55 "PhaseTones$Wheel" "table" "I", Cond.fieldLink RX3 58 "PhaseTones$Wheel" "phase" "I", Cond.fieldLink RX3 61 "PhaseTones$Wheel" "volume" "I", Cond.methodLink RX3 92 yX3_keepMixture, Cond.instanceMethod yX3_keepMixture, Cond.selects RX3 yX3_keepMixture yX3_keepMixture, Cond.code yX3_keepMixture cX3_keepMixture 2 none, Cond.constant RX3 103 (1000003), Cond.methodLink RX3 99 yX3_mixtureAgo, Cond.instanceMethod yX3_mixtureAgo, Cond.selects RX3 yX3_mixtureAgo yX3_mixtureAgo, Cond.code yX3_mixtureAgo cX3_mixtureAgo 2 (some .int), Cond.methodLink RX3 104 yJ9_floorMod_7cf53, Cond.methodLink RX3 96 yX4_goOn, Cond.instanceMethod yX4_goOn, Cond.selects RX4 yX4_goOn yX4_goOn, Cond.code yX4_goOn cX4_goOn 1 none]
def wsX5_make_r5 : List Cond := [Cond.constant RX4 53 (65536), Cond.methodLink RX4 54 yX4_goOnSweeping, Cond.instanceMethod yX4_goOnSweeping, Cond.selects RX4 yX4_goOnSweeping yX4_goOnSweeping, Cond.code yX4_goOnSweeping cX4_goOnSweeping 2 none, Cond.methodLink RX4 57 yX4_dropFirstSweep, Cond.instanceMethod yX4_dropFirstSweep, Cond.selects RX4 yX4_dropFirstSweep yX4_dropFirstSweep, Cond.code yX4_dropFirstSweep cX4_dropFirstSweep 2 none, Cond.methodLink RX4 50 yX4_beginSweep, Cond.instanceMethod yX4_beginSweep, Cond.selects RX4 yX4_beginSweep yX4_beginSweep, Cond.code yX4_beginSweep cX4_beginSweep 1 none, Cond.methodLink RX5 116 yX3_mixtureAgo]
def wsX5_make : List Cond := .code yX5_make cX5_make 2 (some .int) :: ((wsX5_make_r1 ++ (wsX5_make_r2 ++ (wsX5_make_r3 ++ (wsX5_make_r4 ++ wsX5_make_r5)))) ++ wsX50 ++ wsX30 ++ wsX00 ++ wsX40)
def wsX5_doOrder_r1 : List Cond := [Cond.fieldLink RX5 36 "PhaseTones" "pad" "LPhaseTones$Pad;", Cond.fieldLink RX5 219 "PhaseTones$Pad" "order" "I", Cond.fieldLink RX5 10 "PhaseTones" "now" "LPhaseTones$Sound;", Cond.fieldLink RX5 222 "PhaseTones$Pad" "samples" "I", Cond.fieldLink RX5 225 "PhaseTones$Pad" "wheel" "I", Cond.fieldLink RX5 67 "PhaseTones$Sound" "wheels" "[LPhaseTones$Wheel;", Cond.fieldLink RX5 228 "PhaseTones$Pad" "number" "I", Cond.fieldLink RX5 80 "PhaseTones$Wheel" "table" "I", Cond.fieldLink RX5 83 "PhaseTones$Wheel" "volume" "I", Cond.fieldLink RX5 86 "PhaseTones$Wheel" "isOn" "Z", Cond.methodLink RX5 113 yX3_makeSome, Cond.instanceMethod yX3_makeSome, Cond.selects RX3 yX3_makeSome yX3_makeSome, Cond.initialized RX3, Cond.code yX3_makeSome cX3_makeSome 3 (some .boolean), Cond.methodLink RX3 79 yX3_hasNoRoomFor, Cond.instanceMethod yX3_hasNoRoomFor, Cond.selects RX3 yX3_hasNoRoomFor yX3_hasNoRoomFor, Cond.code yX3_hasNoRoomFor cX3_hasNoRoomFor 2 (some .boolean), Cond.constant RX3 78 (999999), Cond.fieldLink RX3 43 "PhaseTones$Sound" "made" "I", Cond.methodLink RX3 83 yX3_makeOne, Cond.instanceMethod yX3_makeOne, Cond.selects RX3 yX3_makeOne yX3_makeOne]
def wsX5_doOrder_r2 : List Cond := [Cond.code yX3_makeOne cX3_makeOne 3 none, Cond.fieldLink RX3 9 "PhaseTones$Sound" "limit" "I", Cond.fieldLink RX3 46 "PhaseTones$Sound" "clipped" "I", Cond.methodLink RX3 89 Lib.Math.min.name, Cond.static Lib.Math.min.name, Cond.initialized "java/lang/Math", Cond.code Lib.Math.min.name Lib.Math.min.code 2 (some .int), Cond.fieldLink RX3 21 "PhaseTones$Sound" "wheels" "[LPhaseTones$Wheel;", Cond.fieldLink RX3 29 "PhaseTones$Wheel" "isOn" "Z", Cond.methodLink RX3 86 yX3_sumOfOn, Cond.instanceMethod yX3_sumOfOn, Cond.selects RX3 yX3_sumOfOn yX3_sumOfOn, Cond.code yX3_sumOfOn cX3_sumOfOn 3 (some .int), Cond.methodLink RX3 64 yX3_valueGivenBy, Cond.instanceMethod yX3_valueGivenBy, Cond.selects RX3 yX3_valueGivenBy yX3_valueGivenBy, Cond.code yX3_valueGivenBy cX3_valueGivenBy 3 (some .int), Cond.fieldLink RX3 55 "PhaseTones$Wheel" "table" "I", Cond.fieldLink RX3 58 "PhaseTones$Wheel" "phase" "I", Cond.fieldLink RX3 15 "PhaseTones$Sound" "values" "[I", Cond.fieldLink RX3 61 "PhaseTones$Wheel" "volume" "I", Cond.methodLink RX3 92 yX3_keepMixture, Cond.instanceMethod yX3_keepMixture, Cond.selects RX3 yX3_keepMixture yX3_keepMixture]
def wsX5_doOrder_r3 : List Cond := [Cond.code yX3_keepMixture cX3_keepMixture 2 none, Cond.fieldLink RX3 52 "PhaseTones$Sound" "rises" "I", Cond.fieldLink RX3 49 "PhaseTones$Sound" "sum" "I", Cond.constant RX3 103 (1000003), Cond.fieldLink RX3 25 "PhaseTones$Sound" "latest" "[I", Cond.methodLink RX3 99 yX3_mixtureAgo, Cond.instanceMethod yX3_mixtureAgo, Cond.selects RX3 yX3_mixtureAgo yX3_mixtureAgo, Cond.code yX3_mixtureAgo cX3_mixtureAgo 2 (some .int), Cond.methodLink RX3 104 yJ9_floorMod_7cf53, Cond.static yJ9_floorMod_7cf53, Cond.initialized RJ9, Cond.code yJ9_floorMod_7cf53 cJ9_floorMod_7cf53 3 (some .int), Cond.methodLink RX3 96 yX4_goOn, Cond.instanceMethod yX4_goOn, Cond.selects RX4 yX4_goOn yX4_goOn, Cond.initialized RX4, Cond.code yX4_goOn cX4_goOn 1 none, Cond.fieldLink RX4 25 "PhaseTones$Wheel" "phase" "I", Cond.fieldLink RX4 9 "PhaseTones$Wheel" "step" "I", Cond.constant RX4 53 (65536), Cond.fieldLink RX4 35 "PhaseTones$Wheel" "sweeps" "I", Cond.methodLink RX4 54 yX4_goOnSweeping, Cond.instanceMethod yX4_goOnSweeping]
def wsX5_doOrder_r4 : List Cond := [Cond.selects RX4 yX4_goOnSweeping yX4_goOnSweeping, Cond.code yX4_goOnSweeping cX4_goOnSweeping 2 none, Cond.fieldLink RX4 22 "PhaseTones$Wheel" "lengths" "[I", Cond.fieldLink RX4 47 "PhaseTones$Wheel" "gone" "I", Cond.fieldLink RX4 44 "PhaseTones$Wheel" "begin" "I", Cond.fieldLink RX4 18 "PhaseTones$Wheel" "ends" "[I", Cond.methodLink RX4 57 yX4_dropFirstSweep, Cond.instanceMethod yX4_dropFirstSweep, Cond.selects RX4 yX4_dropFirstSweep yX4_dropFirstSweep, Cond.code yX4_dropFirstSweep cX4_dropFirstSweep 2 none, Cond.methodLink RX4 50 yX4_beginSweep, Cond.instanceMethod yX4_beginSweep, Cond.selects RX4 yX4_beginSweep yX4_beginSweep, Cond.code yX4_beginSweep cX4_beginSweep 1 none, Cond.methodLink RX5 63 yX5_isNoWheel, Cond.static yX5_isNoWheel, Cond.initialized RX5, Cond.code yX5_isNoWheel cX5_isNoWheel 1 (some .boolean), Cond.methodLink RX5 40 yX5_isOutside, Cond.static yX5_isOutside, Cond.code yX5_isOutside cX5_isOutside 3 (some .boolean), Cond.methodLink RX5 76 yX4_changeStep, Cond.instanceMethod yX4_changeStep, Cond.selects RX4 yX4_changeStep yX4_changeStep]
def wsX5_doOrder_r5 : List Cond := [Cond.code yX4_changeStep cX4_changeStep 2 none, Cond.methodLink RX5 106 yX4_addSweep, Cond.instanceMethod yX4_addSweep, Cond.selects RX4 yX4_addSweep yX4_addSweep, Cond.code yX4_addSweep cX4_addSweep 3 (some .boolean)]
def wsX5_doOrder : List Cond := .code yX5_doOrder cX5_doOrder 2 (some .boolean) :: ((wsX5_doOrder_r1 ++ (wsX5_doOrder_r2 ++ (wsX5_doOrder_r3 ++ (wsX5_doOrder_r4 ++ wsX5_doOrder_r5)))) ++ wsX50 ++ wsX10 ++ wsX30 ++ wsX40)
def wsX5_run_r1 : List Cond := [Cond.fieldLink RX5 36 "PhaseTones" "pad" "LPhaseTones$Pad;", Cond.fieldLink RX5 22 "PhaseTones" "history" "LPhaseTones$History;", Cond.fieldLink RX5 10 "PhaseTones" "now" "LPhaseTones$Sound;", Cond.fieldLink RX5 122 "PhaseTones$Pad" "at" "I", Cond.fieldLink RX5 135 "PhaseTones$Pad" "length" "I", Cond.methodLink RX5 119 yX1_findFault, Cond.instanceMethod yX1_findFault, Cond.selects RX1 yX1_findFault yX1_findFault, Cond.initialized RX1, Cond.code yX1_findFault cX1_findFault 2 (some .int), Cond.fieldLink RX1 19 "PhaseTones$Pad" "at" "I", Cond.fieldLink RX1 15 "PhaseTones$Pad" "length" "I", Cond.methodLink RX1 22 yX1_readOrder, Cond.instanceMethod yX1_readOrder, Cond.selects RX1 yX1_readOrder yX1_readOrder, Cond.code yX1_readOrder cX1_readOrder 1 (some .boolean), Cond.fieldLink RX1 30 "PhaseTones$Pad" "order" "I", Cond.fieldLink RX1 40 "PhaseTones$Pad" "wheel" "I", Cond.constant RX1 47 (65535), Cond.methodLink RX1 26 yX1_pass, Cond.instanceMethod yX1_pass, Cond.selects RX1 yX1_pass yX1_pass, Cond.code yX1_pass cX1_pass 2 (some .boolean), Cond.methodLink RX1 43 yX1_signHere]
def wsX5_run_r2 : List Cond := [Cond.instanceMethod yX1_signHere, Cond.selects RX1 yX1_signHere yX1_signHere, Cond.code yX1_signHere cX1_signHere 1 (some .int), Cond.fieldLink RX1 9 "PhaseTones$Pad" "text" "[C", Cond.methodLink RX1 33 yX1_readSamples, Cond.instanceMethod yX1_readSamples, Cond.selects RX1 yX1_readSamples yX1_readSamples, Cond.code yX1_readSamples cX1_readSamples 1 (some .boolean), Cond.fieldLink RX1 54 "PhaseTones$Pad" "samples" "I", Cond.methodLink RX1 36 yX1_readNumber, Cond.instanceMethod yX1_readNumber, Cond.selects RX1 yX1_readNumber yX1_readNumber, Cond.code yX1_readNumber cX1_readNumber 5 (some .int), Cond.methodLink RX1 57 yX1_digitHere, Cond.instanceMethod yX1_digitHere, Cond.selects RX1 yX1_digitHere yX1_digitHere, Cond.code yX1_digitHere cX1_digitHere 2 (some .int), Cond.static yX5_isOutside, Cond.initialized RX5, Cond.code yX5_isOutside cX5_isOutside 3 (some .boolean), Cond.methodLink RX1 48 yX1_readBehindSign, Cond.instanceMethod yX1_readBehindSign, Cond.selects RX1 yX1_readBehindSign yX1_readBehindSign, Cond.code yX1_readBehindSign cX1_readBehindSign 2 (some .boolean)]
def wsX5_run_r3 : List Cond := [Cond.fieldLink RX1 51 "PhaseTones$Pad" "number" "I", Cond.methodLink RX5 44 yX0_keep, Cond.instanceMethod yX0_keep, Cond.selects RX0 yX0_keep yX0_keep, Cond.initialized RX0, Cond.code yX0_keep cX0_keep 2 none, Cond.fieldLink RX0 11 "PhaseTones$History" "states" "[LPhaseTones$Sound;", Cond.fieldLink RX0 18 "PhaseTones$History" "recorded" "I", Cond.fieldLink RX0 32 "PhaseTones$History" "kept" "I", Cond.methodLink RX0 35 Lib.Math.min.name, Cond.static Lib.Math.min.name, Cond.initialized "java/lang/Math", Cond.code Lib.Math.min.name Lib.Math.min.code 2 (some .int), Cond.methodLink RX0 22 yJ9_floorMod_7cf53, Cond.static yJ9_floorMod_7cf53, Cond.initialized RJ9, Cond.code yJ9_floorMod_7cf53 cJ9_floorMod_7cf53 3 (some .int), Cond.methodLink RX0 28 yX3_takeOver, Cond.instanceMethod yX3_takeOver, Cond.selects RX3 yX3_takeOver yX3_takeOver, Cond.initialized RX3, Cond.code yX3_takeOver cX3_takeOver 3 none, Cond.fieldLink RX3 9 "PhaseTones$Sound" "limit" "I", Cond.fieldLink RX3 15 "PhaseTones$Sound" "values" "[I"]
def wsX5_run_r4 : List Cond := [Cond.methodLink RX3 33 arraycopyName, Cond.native arraycopyName, Cond.static arraycopyName, Cond.initialized "java/lang/System", Cond.fieldLink RX3 21 "PhaseTones$Sound" "wheels" "[LPhaseTones$Wheel;", Cond.fieldLink RX3 43 "PhaseTones$Sound" "made" "I", Cond.fieldLink RX3 46 "PhaseTones$Sound" "clipped" "I", Cond.fieldLink RX3 49 "PhaseTones$Sound" "sum" "I", Cond.fieldLink RX3 52 "PhaseTones$Sound" "rises" "I", Cond.fieldLink RX3 25 "PhaseTones$Sound" "latest" "[I", Cond.methodLink RX3 39 yX4_takeOver, Cond.instanceMethod yX4_takeOver, Cond.selects RX4 yX4_takeOver yX4_takeOver, Cond.initialized RX4, Cond.code yX4_takeOver cX4_takeOver 2 none, Cond.fieldLink RX4 25 "PhaseTones$Wheel" "phase" "I", Cond.fieldLink RX4 9 "PhaseTones$Wheel" "step" "I", Cond.fieldLink RX4 28 "PhaseTones$Wheel" "table" "I", Cond.fieldLink RX4 15 "PhaseTones$Wheel" "volume" "I", Cond.fieldLink RX4 31 "PhaseTones$Wheel" "isOn" "Z", Cond.fieldLink RX4 35 "PhaseTones$Wheel" "sweeps" "I", Cond.fieldLink RX4 18 "PhaseTones$Wheel" "ends" "[I", Cond.methodLink RX4 38 arraycopyName, Cond.fieldLink RX4 22 "PhaseTones$Wheel" "lengths" "[I"]
def wsX5_run_r5 : List Cond := [Cond.fieldLink RX4 44 "PhaseTones$Wheel" "begin" "I", Cond.fieldLink RX4 47 "PhaseTones$Wheel" "gone" "I", Cond.methodLink RX5 125 yX1_readOrder, Cond.methodLink RX5 129 yX5_doOrder, Cond.instanceMethod yX5_doOrder, Cond.selects RX5 yX5_doOrder yX5_doOrder, Cond.code yX5_doOrder cX5_doOrder 2 (some .boolean), Cond.fieldLink RX5 219 "PhaseTones$Pad" "order" "I", Cond.fieldLink RX5 222 "PhaseTones$Pad" "samples" "I", Cond.fieldLink RX5 225 "PhaseTones$Pad" "wheel" "I", Cond.fieldLink RX5 67 "PhaseTones$Sound" "wheels" "[LPhaseTones$Wheel;", Cond.fieldLink RX5 228 "PhaseTones$Pad" "number" "I", Cond.fieldLink RX5 80 "PhaseTones$Wheel" "table" "I", Cond.fieldLink RX5 83 "PhaseTones$Wheel" "volume" "I", Cond.fieldLink RX5 86 "PhaseTones$Wheel" "isOn" "Z", Cond.methodLink RX5 113 yX3_makeSome, Cond.instanceMethod yX3_makeSome, Cond.selects RX3 yX3_makeSome yX3_makeSome, Cond.code yX3_makeSome cX3_makeSome 3 (some .boolean), Cond.methodLink RX3 79 yX3_hasNoRoomFor, Cond.instanceMethod yX3_hasNoRoomFor, Cond.selects RX3 yX3_hasNoRoomFor yX3_hasNoRoomFor, Cond.code yX3_hasNoRoomFor cX3_hasNoRoomFor 2 (some .boolean), Cond.constant RX3 78 (999999)]
def wsX5_run_r6 : List Cond := [Cond.methodLink RX3 83 yX3_makeOne, Cond.instanceMethod yX3_makeOne, Cond.selects RX3 yX3_makeOne yX3_makeOne, Cond.code yX3_makeOne cX3_makeOne 3 none, Cond.methodLink RX3 89 Lib.Math.min.name, Cond.fieldLink RX3 29 "PhaseTones$Wheel" "isOn" "Z", Cond.methodLink RX3 86 yX3_sumOfOn, Cond.instanceMethod yX3_sumOfOn, Cond.selects RX3 yX3_sumOfOn yX3_sumOfOn, Cond.code yX3_sumOfOn cX3_sumOfOn 3 (some .int), Cond.methodLink RX3 64 yX3_valueGivenBy, Cond.instanceMethod yX3_valueGivenBy, Cond.selects RX3 yX3_valueGivenBy yX3_valueGivenBy, Cond.code yX3_valueGivenBy cX3_valueGivenBy 3 (some .int), Cond.fieldLink RX3 55 "PhaseTones$Wheel" "table" "I", Cond.fieldLink RX3 58 "PhaseTones$Wheel" "phase" "I", Cond.fieldLink RX3 61 "PhaseTones$Wheel" "volume" "I", Cond.methodLink RX3 92 yX3_keepMixture, Cond.instanceMethod yX3_keepMixture, Cond.selects RX3 yX3_keepMixture yX3_keepMixture, Cond.code yX3_keepMixture cX3_keepMixture 2 none, Cond.constant RX3 103 (1000003), Cond.methodLink RX3 99 yX3_mixtureAgo, Cond.instanceMethod yX3_mixtureAgo]
def wsX5_run_r7 : List Cond := [Cond.selects RX3 yX3_mixtureAgo yX3_mixtureAgo, Cond.code yX3_mixtureAgo cX3_mixtureAgo 2 (some .int), Cond.methodLink RX3 104 yJ9_floorMod_7cf53, Cond.methodLink RX3 96 yX4_goOn, Cond.instanceMethod yX4_goOn, Cond.selects RX4 yX4_goOn yX4_goOn, Cond.code yX4_goOn cX4_goOn 1 none, Cond.constant RX4 53 (65536), Cond.methodLink RX4 54 yX4_goOnSweeping, Cond.instanceMethod yX4_goOnSweeping, Cond.selects RX4 yX4_goOnSweeping yX4_goOnSweeping, Cond.code yX4_goOnSweeping cX4_goOnSweeping 2 none, Cond.methodLink RX4 57 yX4_dropFirstSweep, Cond.instanceMethod yX4_dropFirstSweep, Cond.selects RX4 yX4_dropFirstSweep yX4_dropFirstSweep, Cond.code yX4_dropFirstSweep cX4_dropFirstSweep 2 none, Cond.methodLink RX4 50 yX4_beginSweep, Cond.instanceMethod yX4_beginSweep, Cond.selects RX4 yX4_beginSweep yX4_beginSweep, Cond.code yX4_beginSweep cX4_beginSweep 1 none, Cond.methodLink RX5 63 yX5_isNoWheel, Cond.static yX5_isNoWheel, Cond.code yX5_isNoWheel cX5_isNoWheel 1 (some .boolean), Cond.methodLink RX5 40 yX5_isOutside]
def wsX5_run_r8 : List Cond := [Cond.methodLink RX5 76 yX4_changeStep, Cond.instanceMethod yX4_changeStep, Cond.selects RX4 yX4_changeStep yX4_changeStep, Cond.code yX4_changeStep cX4_changeStep 2 none, Cond.methodLink RX5 106 yX4_addSweep, Cond.instanceMethod yX4_addSweep, Cond.selects RX4 yX4_addSweep yX4_addSweep, Cond.code yX4_addSweep cX4_addSweep 3 (some .boolean), Cond.methodLink RX5 132 yX1_pass]
def wsX5_run : List Cond := .code yX5_run cX5_run 3 (some .int) :: ((wsX5_run_r1 ++ (wsX5_run_r2 ++ (wsX5_run_r3 ++ (wsX5_run_r4 ++ (wsX5_run_r5 ++ (wsX5_run_r6 ++ (wsX5_run_r7 ++ wsX5_run_r8))))))) ++ wsX50 ++ wsX10 ++ wsX00 ++ wsX30 ++ wsX40)
def wsX5_wheel_r1 : List Cond := [Cond.fieldLink RX5 10 "PhaseTones" "now" "LPhaseTones$Sound;", Cond.fieldLink RX5 67 "PhaseTones$Sound" "wheels" "[LPhaseTones$Wheel;", Cond.fieldLink RX5 100 "PhaseTones$Wheel" "phase" "I", Cond.fieldLink RX5 71 "PhaseTones$Wheel" "step" "I", Cond.fieldLink RX5 80 "PhaseTones$Wheel" "table" "I", Cond.fieldLink RX5 83 "PhaseTones$Wheel" "volume" "I", Cond.fieldLink RX5 86 "PhaseTones$Wheel" "isOn" "Z", Cond.fieldLink RX5 103 "PhaseTones$Wheel" "sweeps" "I", Cond.methodLink RX5 63 yX5_isNoWheel, Cond.static yX5_isNoWheel, Cond.initialized RX5, Cond.code yX5_isNoWheel cX5_isNoWheel 1 (some .boolean), Cond.methodLink RX5 40 yX5_isOutside, Cond.static yX5_isOutside, Cond.code yX5_isOutside cX5_isOutside 3 (some .boolean), Cond.methodLink RX5 138 yX3_valueGivenBy, Cond.instanceMethod yX3_valueGivenBy, Cond.selects RX3 yX3_valueGivenBy yX3_valueGivenBy, Cond.initialized RX3, Cond.code yX3_valueGivenBy cX3_valueGivenBy 3 (some .int), Cond.fieldLink RX3 55 "PhaseTones$Wheel" "table" "I", Cond.fieldLink RX3 58 "PhaseTones$Wheel" "phase" "I", Cond.fieldLink RX3 15 "PhaseTones$Sound" "values" "[I", Cond.fieldLink RX3 61 "PhaseTones$Wheel" "volume" "I"]
def wsX5_wheel_r2 : List Cond := [Cond.methodLink RX5 142 yX4_image, Cond.instanceMethod yX4_image, Cond.selects RX4 yX4_image yX4_image, Cond.initialized RX4, Cond.code yX4_image cX4_image 1 (some .int), Cond.fieldLink RX4 9 "PhaseTones$Wheel" "step" "I", Cond.constant RX4 60 (32768), Cond.constant RX4 53 (65536), Cond.methodLink RX5 145 yX4_samplesOfARound, Cond.instanceMethod yX4_samplesOfARound, Cond.selects RX4 yX4_samplesOfARound yX4_samplesOfARound, Cond.code yX4_samplesOfARound cX4_samplesOfARound 2 (some .int), Cond.methodLink RX5 148 yX4_samplesOfSweeps, Cond.instanceMethod yX4_samplesOfSweeps, Cond.selects RX4 yX4_samplesOfSweeps yX4_samplesOfSweeps, Cond.code yX4_samplesOfSweeps cX4_samplesOfSweeps 3 (some .int), Cond.fieldLink RX4 35 "PhaseTones$Wheel" "sweeps" "I", Cond.fieldLink RX4 22 "PhaseTones$Wheel" "lengths" "[I", Cond.fieldLink RX4 47 "PhaseTones$Wheel" "gone" "I", Cond.methodLink RX5 151 yX4_lastStep, Cond.instanceMethod yX4_lastStep, Cond.selects RX4 yX4_lastStep yX4_lastStep, Cond.code yX4_lastStep cX4_lastStep 1 (some .int), Cond.fieldLink RX4 18 "PhaseTones$Wheel" "ends" "[I"]
def wsX5_wheel : List Cond := .code yX5_wheel cX5_wheel 4 (some .int) :: ((wsX5_wheel_r1 ++ wsX5_wheel_r2) ++ wsX50 ++ wsX30 ++ wsX40)
def wsX5_valueOf : List Cond := .code yX5_valueOf cX5_valueOf 3 (some .int) :: ([.fieldLink RX5 10 "PhaseTones" "now" "LPhaseTones$Sound;", .fieldLink RX5 59 "PhaseTones$Sound" "values" "[I", .methodLink RX5 52 yX5_isNoTable, .static yX5_isNoTable, .initialized RX5, .code yX5_isNoTable cX5_isNoTable 1 (some .boolean), .methodLink RX5 40 yX5_isOutside, .static yX5_isOutside, .code yX5_isOutside cX5_isOutside 3 (some .boolean), .methodLink RX5 56 yX5_isNoPlace, .static yX5_isNoPlace, .code yX5_isNoPlace cX5_isNoPlace 1 (some .boolean)] ++ wsX50 ++ wsX30)
def wsX5_sample : List Cond := .code yX5_sample cX5_sample 2 (some .int) :: ([.fieldLink RX5 10 "PhaseTones" "now" "LPhaseTones$Sound;", .fieldLink RX5 154 "PhaseTones$Sound" "made" "I", .methodLink RX5 40 yX5_isOutside, .static yX5_isOutside, .initialized RX5, .code yX5_isOutside cX5_isOutside 3 (some .boolean), .methodLink RX5 116 yX3_mixtureAgo, .instanceMethod yX3_mixtureAgo, .selects RX3 yX3_mixtureAgo yX3_mixtureAgo, .initialized RX3, .code yX3_mixtureAgo cX3_mixtureAgo 2 (some .int), .fieldLink RX3 25 "PhaseTones$Sound" "latest" "[I", .fieldLink RX3 43 "PhaseTones$Sound" "made" "I", .methodLink RX3 104 yJ9_floorMod_7cf53, .static yJ9_floorMod_7cf53, .initialized RJ9, .code yJ9_floorMod_7cf53 cJ9_floorMod_7cf53 3 (some .int)] ++ wsX50 ++ wsX30)
def wsX5_beat : List Cond := .code yX5_beat cX5_beat 3 (some .int) :: ([.fieldLink RX5 10 "PhaseTones" "now" "LPhaseTones$Sound;", .fieldLink RX5 67 "PhaseTones$Sound" "wheels" "[LPhaseTones$Wheel;", .methodLink RX5 157 Lib.Math.abs.name, .static Lib.Math.abs.name, .initialized "java/lang/Math", .code Lib.Math.abs.name Lib.Math.abs.code 1 (some .int), .methodLink RX5 63 yX5_isNoWheel, .static yX5_isNoWheel, .initialized RX5, .code yX5_isNoWheel cX5_isNoWheel 1 (some .boolean), .methodLink RX5 40 yX5_isOutside, .static yX5_isOutside, .code yX5_isOutside cX5_isOutside 3 (some .boolean), .methodLink RX5 142 yX4_image, .instanceMethod yX4_image, .selects RX4 yX4_image yX4_image, .initialized RX4, .code yX4_image cX4_image 1 (some .int), .fieldLink RX4 9 "PhaseTones$Wheel" "step" "I", .constant RX4 60 (32768), .constant RX4 53 (65536)] ++ wsX50 ++ wsX30 ++ wsX40)
def wsX5_count_r1 : List Cond := [Cond.fieldLink RX5 10 "PhaseTones" "now" "LPhaseTones$Sound;", Cond.fieldLink RX5 48 "PhaseTones$Sound" "limit" "I", Cond.fieldLink RX5 154 "PhaseTones$Sound" "made" "I", Cond.fieldLink RX5 162 "PhaseTones$Sound" "clipped" "I", Cond.methodLink RX5 168 Lib.Math.min.name, Cond.static Lib.Math.min.name, Cond.initialized "java/lang/Math", Cond.code Lib.Math.min.name Lib.Math.min.code 2 (some .int), Cond.fieldLink RX5 172 "PhaseTones$Sound" "sum" "I", Cond.fieldLink RX5 175 "PhaseTones$Sound" "rises" "I", Cond.fieldLink RX5 36 "PhaseTones" "pad" "LPhaseTones$Pad;", Cond.fieldLink RX5 135 "PhaseTones$Pad" "length" "I", Cond.fieldLink RX5 22 "PhaseTones" "history" "LPhaseTones$History;", Cond.fieldLink RX5 181 "PhaseTones$History" "kept" "I", Cond.methodLink RX5 90 yX3_maskOfOn, Cond.instanceMethod yX3_maskOfOn, Cond.selects RX3 yX3_maskOfOn yX3_maskOfOn, Cond.initialized RX3, Cond.code yX3_maskOfOn cX3_maskOfOn 3 (some .int), Cond.fieldLink RX3 21 "PhaseTones$Sound" "wheels" "[LPhaseTones$Wheel;", Cond.fieldLink RX3 29 "PhaseTones$Wheel" "isOn" "Z", Cond.methodLink RX5 165 yX3_sumOfOn, Cond.instanceMethod yX3_sumOfOn, Cond.selects RX3 yX3_sumOfOn yX3_sumOfOn]
def wsX5_count_r2 : List Cond := [Cond.code yX3_sumOfOn cX3_sumOfOn 3 (some .int), Cond.methodLink RX3 64 yX3_valueGivenBy, Cond.instanceMethod yX3_valueGivenBy, Cond.selects RX3 yX3_valueGivenBy yX3_valueGivenBy, Cond.code yX3_valueGivenBy cX3_valueGivenBy 3 (some .int), Cond.fieldLink RX3 55 "PhaseTones$Wheel" "table" "I", Cond.fieldLink RX3 58 "PhaseTones$Wheel" "phase" "I", Cond.fieldLink RX3 15 "PhaseTones$Sound" "values" "[I", Cond.fieldLink RX3 61 "PhaseTones$Wheel" "volume" "I", Cond.methodLink RX5 178 yX3_samplesOfARoundOfAll, Cond.instanceMethod yX3_samplesOfARoundOfAll, Cond.selects RX3 yX3_samplesOfARoundOfAll yX3_samplesOfARoundOfAll, Cond.code yX3_samplesOfARoundOfAll cX3_samplesOfARoundOfAll 3 (some .int), Cond.methodLink RX3 72 Lib.Math.max.name, Cond.static Lib.Math.max.name, Cond.code Lib.Math.max.name Lib.Math.max.code 2 (some .int), Cond.methodLink RX3 68 yX4_samplesOfARound, Cond.instanceMethod yX4_samplesOfARound, Cond.selects RX4 yX4_samplesOfARound yX4_samplesOfARound, Cond.initialized RX4, Cond.code yX4_samplesOfARound cX4_samplesOfARound 2 (some .int), Cond.fieldLink RX4 9 "PhaseTones$Wheel" "step" "I", Cond.constant RX4 53 (65536)]
def wsX5_count : List Cond := .code yX5_count cX5_count 2 (some .int) :: ((wsX5_count_r1 ++ wsX5_count_r2) ++ wsX50 ++ wsX30 ++ wsX10 ++ wsX00 ++ wsX40)
def wsX5_ifMade_r1 : List Cond := [Cond.fieldLink RX5 16 "PhaseTones" "trial" "LPhaseTones$Sound;", Cond.fieldLink RX5 10 "PhaseTones" "now" "LPhaseTones$Sound;", Cond.methodLink RX5 190 Lib.Math.max.name, Cond.static Lib.Math.max.name, Cond.initialized "java/lang/Math", Cond.code Lib.Math.max.name Lib.Math.max.code 2 (some .int), Cond.methodLink RX5 168 Lib.Math.min.name, Cond.static Lib.Math.min.name, Cond.code Lib.Math.min.name Lib.Math.min.code 2 (some .int), Cond.fieldLink RX5 162 "PhaseTones$Sound" "clipped" "I", Cond.methodLink RX5 40 yX5_isOutside, Cond.static yX5_isOutside, Cond.initialized RX5, Cond.code yX5_isOutside cX5_isOutside 3 (some .boolean), Cond.methodLink RX5 184 yX3_takeOver, Cond.instanceMethod yX3_takeOver, Cond.selects RX3 yX3_takeOver yX3_takeOver, Cond.initialized RX3, Cond.code yX3_takeOver cX3_takeOver 3 none, Cond.fieldLink RX3 9 "PhaseTones$Sound" "limit" "I", Cond.fieldLink RX3 15 "PhaseTones$Sound" "values" "[I", Cond.methodLink RX3 33 arraycopyName, Cond.native arraycopyName, Cond.static arraycopyName]
def wsX5_ifMade_r2 : List Cond := [Cond.initialized "java/lang/System", Cond.fieldLink RX3 21 "PhaseTones$Sound" "wheels" "[LPhaseTones$Wheel;", Cond.fieldLink RX3 43 "PhaseTones$Sound" "made" "I", Cond.fieldLink RX3 46 "PhaseTones$Sound" "clipped" "I", Cond.fieldLink RX3 49 "PhaseTones$Sound" "sum" "I", Cond.fieldLink RX3 52 "PhaseTones$Sound" "rises" "I", Cond.fieldLink RX3 25 "PhaseTones$Sound" "latest" "[I", Cond.methodLink RX3 39 yX4_takeOver, Cond.instanceMethod yX4_takeOver, Cond.selects RX4 yX4_takeOver yX4_takeOver, Cond.initialized RX4, Cond.code yX4_takeOver cX4_takeOver 2 none, Cond.fieldLink RX4 25 "PhaseTones$Wheel" "phase" "I", Cond.fieldLink RX4 9 "PhaseTones$Wheel" "step" "I", Cond.fieldLink RX4 28 "PhaseTones$Wheel" "table" "I", Cond.fieldLink RX4 15 "PhaseTones$Wheel" "volume" "I", Cond.fieldLink RX4 31 "PhaseTones$Wheel" "isOn" "Z", Cond.fieldLink RX4 35 "PhaseTones$Wheel" "sweeps" "I", Cond.fieldLink RX4 18 "PhaseTones$Wheel" "ends" "[I", Cond.methodLink RX4 38 arraycopyName, Cond.fieldLink RX4 22 "PhaseTones$Wheel" "lengths" "[I", Cond.fieldLink RX4 44 "PhaseTones$Wheel" "begin" "I", Cond.fieldLink RX4 47 "PhaseTones$Wheel" "gone" "I", Cond.methodLink RX5 187 yX3_makeOne]
def wsX5_ifMade_r3 : List Cond := [Cond.instanceMethod yX3_makeOne, Cond.selects RX3 yX3_makeOne yX3_makeOne, Cond.code yX3_makeOne cX3_makeOne 3 none, Cond.methodLink RX3 89 Lib.Math.min.name, Cond.fieldLink RX3 29 "PhaseTones$Wheel" "isOn" "Z", Cond.methodLink RX3 86 yX3_sumOfOn, Cond.instanceMethod yX3_sumOfOn, Cond.selects RX3 yX3_sumOfOn yX3_sumOfOn, Cond.code yX3_sumOfOn cX3_sumOfOn 3 (some .int), Cond.methodLink RX3 64 yX3_valueGivenBy, Cond.instanceMethod yX3_valueGivenBy, Cond.selects RX3 yX3_valueGivenBy yX3_valueGivenBy, Cond.code yX3_valueGivenBy cX3_valueGivenBy 3 (some .int), Cond.fieldLink RX3 55 "PhaseTones$Wheel" "table" "I", Cond.fieldLink RX3 58 "PhaseTones$Wheel" "phase" "I", Cond.fieldLink RX3 61 "PhaseTones$Wheel" "volume" "I", Cond.methodLink RX3 92 yX3_keepMixture, Cond.instanceMethod yX3_keepMixture, Cond.selects RX3 yX3_keepMixture yX3_keepMixture, Cond.code yX3_keepMixture cX3_keepMixture 2 none, Cond.constant RX3 103 (1000003), Cond.methodLink RX3 99 yX3_mixtureAgo, Cond.instanceMethod yX3_mixtureAgo, Cond.selects RX3 yX3_mixtureAgo yX3_mixtureAgo]
def wsX5_ifMade_r4 : List Cond := [Cond.code yX3_mixtureAgo cX3_mixtureAgo 2 (some .int), Cond.methodLink RX3 104 yJ9_floorMod_7cf53, Cond.static yJ9_floorMod_7cf53, Cond.initialized RJ9, Cond.code yJ9_floorMod_7cf53 cJ9_floorMod_7cf53 3 (some .int), Cond.methodLink RX3 96 yX4_goOn, Cond.instanceMethod yX4_goOn, Cond.selects RX4 yX4_goOn yX4_goOn, Cond.code yX4_goOn cX4_goOn 1 none, Cond.constant RX4 53 (65536), Cond.methodLink RX4 54 yX4_goOnSweeping, Cond.instanceMethod yX4_goOnSweeping, Cond.selects RX4 yX4_goOnSweeping yX4_goOnSweeping, Cond.code yX4_goOnSweeping cX4_goOnSweeping 2 none, Cond.methodLink RX4 57 yX4_dropFirstSweep, Cond.instanceMethod yX4_dropFirstSweep, Cond.selects RX4 yX4_dropFirstSweep yX4_dropFirstSweep, Cond.code yX4_dropFirstSweep cX4_dropFirstSweep 2 none, Cond.methodLink RX4 50 yX4_beginSweep, Cond.instanceMethod yX4_beginSweep, Cond.selects RX4 yX4_beginSweep yX4_beginSweep, Cond.code yX4_beginSweep cX4_beginSweep 1 none, Cond.methodLink RX5 116 yX3_mixtureAgo]
def wsX5_ifMade : List Cond := .code yX5_ifMade cX5_ifMade 6 (some .int) :: ((wsX5_ifMade_r1 ++ (wsX5_ifMade_r2 ++ (wsX5_ifMade_r3 ++ wsX5_ifMade_r4))) ++ wsX50 ++ wsX30 ++ wsX40)
def wsX5_untilClip_r1 : List Cond := [Cond.fieldLink RX5 16 "PhaseTones" "trial" "LPhaseTones$Sound;", Cond.fieldLink RX5 10 "PhaseTones" "now" "LPhaseTones$Sound;", Cond.fieldLink RX5 162 "PhaseTones$Sound" "clipped" "I", Cond.methodLink RX5 184 yX3_takeOver, Cond.instanceMethod yX3_takeOver, Cond.selects RX3 yX3_takeOver yX3_takeOver, Cond.initialized RX3, Cond.code yX3_takeOver cX3_takeOver 3 none, Cond.fieldLink RX3 9 "PhaseTones$Sound" "limit" "I", Cond.fieldLink RX3 15 "PhaseTones$Sound" "values" "[I", Cond.methodLink RX3 33 arraycopyName, Cond.native arraycopyName, Cond.static arraycopyName, Cond.initialized "java/lang/System", Cond.fieldLink RX3 21 "PhaseTones$Sound" "wheels" "[LPhaseTones$Wheel;", Cond.fieldLink RX3 43 "PhaseTones$Sound" "made" "I", Cond.fieldLink RX3 46 "PhaseTones$Sound" "clipped" "I", Cond.fieldLink RX3 49 "PhaseTones$Sound" "sum" "I", Cond.fieldLink RX3 52 "PhaseTones$Sound" "rises" "I", Cond.fieldLink RX3 25 "PhaseTones$Sound" "latest" "[I", Cond.methodLink RX3 39 yX4_takeOver, Cond.instanceMethod yX4_takeOver, Cond.selects RX4 yX4_takeOver yX4_takeOver, Cond.initialized RX4]
def wsX5_untilClip_r2 : List Cond := [Cond.code yX4_takeOver cX4_takeOver 2 none, Cond.fieldLink RX4 25 "PhaseTones$Wheel" "phase" "I", Cond.fieldLink RX4 9 "PhaseTones$Wheel" "step" "I", Cond.fieldLink RX4 28 "PhaseTones$Wheel" "table" "I", Cond.fieldLink RX4 15 "PhaseTones$Wheel" "volume" "I", Cond.fieldLink RX4 31 "PhaseTones$Wheel" "isOn" "Z", Cond.fieldLink RX4 35 "PhaseTones$Wheel" "sweeps" "I", Cond.fieldLink RX4 18 "PhaseTones$Wheel" "ends" "[I", Cond.methodLink RX4 38 arraycopyName, Cond.fieldLink RX4 22 "PhaseTones$Wheel" "lengths" "[I", Cond.fieldLink RX4 44 "PhaseTones$Wheel" "begin" "I", Cond.fieldLink RX4 47 "PhaseTones$Wheel" "gone" "I", Cond.methodLink RX5 187 yX3_makeOne, Cond.instanceMethod yX3_makeOne, Cond.selects RX3 yX3_makeOne yX3_makeOne, Cond.code yX3_makeOne cX3_makeOne 3 none, Cond.methodLink RX3 89 Lib.Math.min.name, Cond.static Lib.Math.min.name, Cond.initialized "java/lang/Math", Cond.code Lib.Math.min.name Lib.Math.min.code 2 (some .int), Cond.fieldLink RX3 29 "PhaseTones$Wheel" "isOn" "Z", Cond.methodLink RX3 86 yX3_sumOfOn, Cond.instanceMethod yX3_sumOfOn, Cond.selects RX3 yX3_sumOfOn yX3_sumOfOn]
def wsX5_untilClip_r3 : List Cond := [Cond.code yX3_sumOfOn cX3_sumOfOn 3 (some .int), Cond.methodLink RX3 64 yX3_valueGivenBy, Cond.instanceMethod yX3_valueGivenBy, Cond.selects RX3 yX3_valueGivenBy yX3_valueGivenBy, Cond.code yX3_valueGivenBy cX3_valueGivenBy 3 (some .int), Cond.fieldLink RX3 55 "PhaseTones$Wheel" "table" "I", Cond.fieldLink RX3 58 "PhaseTones$Wheel" "phase" "I", Cond.fieldLink RX3 61 "PhaseTones$Wheel" "volume" "I", Cond.methodLink RX3 92 yX3_keepMixture, Cond.instanceMethod yX3_keepMixture, Cond.selects RX3 yX3_keepMixture yX3_keepMixture, Cond.code yX3_keepMixture cX3_keepMixture 2 none, Cond.constant RX3 103 (1000003), Cond.methodLink RX3 99 yX3_mixtureAgo, Cond.instanceMethod yX3_mixtureAgo, Cond.selects RX3 yX3_mixtureAgo yX3_mixtureAgo, Cond.code yX3_mixtureAgo cX3_mixtureAgo 2 (some .int), Cond.methodLink RX3 104 yJ9_floorMod_7cf53, Cond.static yJ9_floorMod_7cf53, Cond.initialized RJ9, Cond.code yJ9_floorMod_7cf53 cJ9_floorMod_7cf53 3 (some .int), Cond.methodLink RX3 96 yX4_goOn, Cond.instanceMethod yX4_goOn, Cond.selects RX4 yX4_goOn yX4_goOn]
def wsX5_untilClip_r4 : List Cond := [Cond.code yX4_goOn cX4_goOn 1 none, Cond.constant RX4 53 (65536), Cond.methodLink RX4 54 yX4_goOnSweeping, Cond.instanceMethod yX4_goOnSweeping, Cond.selects RX4 yX4_goOnSweeping yX4_goOnSweeping, Cond.code yX4_goOnSweeping cX4_goOnSweeping 2 none, Cond.methodLink RX4 57 yX4_dropFirstSweep, Cond.instanceMethod yX4_dropFirstSweep, Cond.selects RX4 yX4_dropFirstSweep yX4_dropFirstSweep, Cond.code yX4_dropFirstSweep cX4_dropFirstSweep 2 none, Cond.methodLink RX4 50 yX4_beginSweep, Cond.instanceMethod yX4_beginSweep, Cond.selects RX4 yX4_beginSweep yX4_beginSweep, Cond.code yX4_beginSweep cX4_beginSweep 1 none]
def wsX5_untilClip : List Cond := .code yX5_untilClip cX5_untilClip 2 (some .int) :: ((wsX5_untilClip_r1 ++ (wsX5_untilClip_r2 ++ (wsX5_untilClip_r3 ++ wsX5_untilClip_r4))) ++ wsX50 ++ wsX30 ++ wsX40)
def wsX5_bestStep : List Cond := .code yX5_bestStep cX5_bestStep 5 (some .int) :: ([.constant RX5 193 (65536), .constant RX5 194 (32768), .methodLink RX5 157 Lib.Math.abs.name, .static Lib.Math.abs.name, .initialized "java/lang/Math", .code Lib.Math.abs.name Lib.Math.abs.code 1 (some .int), .methodLink RX5 40 yX5_isOutside, .static yX5_isOutside, .initialized RX5, .code yX5_isOutside cX5_isOutside 3 (some .boolean)])
def wsX5_untilRound_r1 : List Cond := [Cond.fieldLink RX5 16 "PhaseTones" "trial" "LPhaseTones$Sound;", Cond.fieldLink RX5 10 "PhaseTones" "now" "LPhaseTones$Sound;", Cond.fieldLink RX5 67 "PhaseTones$Sound" "wheels" "[LPhaseTones$Wheel;", Cond.methodLink RX5 63 yX5_isNoWheel, Cond.static yX5_isNoWheel, Cond.initialized RX5, Cond.code yX5_isNoWheel cX5_isNoWheel 1 (some .boolean), Cond.methodLink RX5 40 yX5_isOutside, Cond.static yX5_isOutside, Cond.code yX5_isOutside cX5_isOutside 3 (some .boolean), Cond.methodLink RX5 184 yX3_takeOver, Cond.instanceMethod yX3_takeOver, Cond.selects RX3 yX3_takeOver yX3_takeOver, Cond.initialized RX3, Cond.code yX3_takeOver cX3_takeOver 3 none, Cond.fieldLink RX3 9 "PhaseTones$Sound" "limit" "I", Cond.fieldLink RX3 15 "PhaseTones$Sound" "values" "[I", Cond.methodLink RX3 33 arraycopyName, Cond.native arraycopyName, Cond.static arraycopyName, Cond.initialized "java/lang/System", Cond.fieldLink RX3 21 "PhaseTones$Sound" "wheels" "[LPhaseTones$Wheel;", Cond.fieldLink RX3 43 "PhaseTones$Sound" "made" "I", Cond.fieldLink RX3 46 "PhaseTones$Sound" "clipped" "I"]
def wsX5_untilRound_r2 : List Cond := [Cond.fieldLink RX3 49 "PhaseTones$Sound" "sum" "I", Cond.fieldLink RX3 52 "PhaseTones$Sound" "rises" "I", Cond.fieldLink RX3 25 "PhaseTones$Sound" "latest" "[I", Cond.methodLink RX3 39 yX4_takeOver, Cond.instanceMethod yX4_takeOver, Cond.selects RX4 yX4_takeOver yX4_takeOver, Cond.initialized RX4, Cond.code yX4_takeOver cX4_takeOver 2 none, Cond.fieldLink RX4 25 "PhaseTones$Wheel" "phase" "I", Cond.fieldLink RX4 9 "PhaseTones$Wheel" "step" "I", Cond.fieldLink RX4 28 "PhaseTones$Wheel" "table" "I", Cond.fieldLink RX4 15 "PhaseTones$Wheel" "volume" "I", Cond.fieldLink RX4 31 "PhaseTones$Wheel" "isOn" "Z", Cond.fieldLink RX4 35 "PhaseTones$Wheel" "sweeps" "I", Cond.fieldLink RX4 18 "PhaseTones$Wheel" "ends" "[I", Cond.methodLink RX4 38 arraycopyName, Cond.fieldLink RX4 22 "PhaseTones$Wheel" "lengths" "[I", Cond.fieldLink RX4 44 "PhaseTones$Wheel" "begin" "I", Cond.fieldLink RX4 47 "PhaseTones$Wheel" "gone" "I", Cond.methodLink RX5 195 yX4_goRound, Cond.instanceMethod yX4_goRound, Cond.selects RX4 yX4_goRound yX4_goRound, Cond.code yX4_goRound cX4_goRound 3 (some .int), Cond.constant RX4 61 (70000)]
def wsX5_untilRound_r3 : List Cond := [Cond.constant RX4 65 (65535), Cond.methodLink RX4 62 yX4_goOn, Cond.instanceMethod yX4_goOn, Cond.selects RX4 yX4_goOn yX4_goOn, Cond.code yX4_goOn cX4_goOn 1 none, Cond.constant RX4 53 (65536), Cond.methodLink RX4 54 yX4_goOnSweeping, Cond.instanceMethod yX4_goOnSweeping, Cond.selects RX4 yX4_goOnSweeping yX4_goOnSweeping, Cond.code yX4_goOnSweeping cX4_goOnSweeping 2 none, Cond.methodLink RX4 57 yX4_dropFirstSweep, Cond.instanceMethod yX4_dropFirstSweep, Cond.selects RX4 yX4_dropFirstSweep yX4_dropFirstSweep, Cond.code yX4_dropFirstSweep cX4_dropFirstSweep 2 none, Cond.methodLink RX4 50 yX4_beginSweep, Cond.instanceMethod yX4_beginSweep, Cond.selects RX4 yX4_beginSweep yX4_beginSweep, Cond.code yX4_beginSweep cX4_beginSweep 1 none]
def wsX5_untilRound : List Cond := .code yX5_untilRound cX5_untilRound 2 (some .int) :: ((wsX5_untilRound_r1 ++ (wsX5_untilRound_r2 ++ wsX5_untilRound_r3)) ++ wsX50 ++ wsX30 ++ wsX40)
def wsX5_sizeOfText : List Cond := .code yX5_sizeOfText cX5_sizeOfText 5 (some .int) :: ([.constantLong RX5 202 (255), .methodLink RX5 40 yX5_isOutside, .static yX5_isOutside, .initialized RX5, .code yX5_isOutside cX5_isOutside 3 (some .boolean)])
def wsX5_put : List Cond := .code yX5_put cX5_put 5 (some .int) :: ([.fieldLink RX5 36 "PhaseTones" "pad" "LPhaseTones$Pad;", .fieldLink RX5 135 "PhaseTones$Pad" "length" "I", .constantLong RX5 202 (255), .methodLink RX5 198 yX5_sizeOfText, .static yX5_sizeOfText, .initialized RX5, .code yX5_sizeOfText cX5_sizeOfText 5 (some .int), .methodLink RX5 40 yX5_isOutside, .static yX5_isOutside, .code yX5_isOutside cX5_isOutside 3 (some .boolean), .methodLink RX5 204 yX1_append, .instanceMethod yX1_append, .selects RX1 yX1_append yX1_append, .initialized RX1, .code yX1_append cX1_append 2 none, .fieldLink RX1 15 "PhaseTones$Pad" "length" "I", .fieldLink RX1 9 "PhaseTones$Pad" "text" "[C"] ++ wsX50 ++ wsX10)
def wsX5_wipe : List Cond := .code yX5_wipe cX5_wipe 2 (some .int) :: ([.fieldLink RX5 36 "PhaseTones" "pad" "LPhaseTones$Pad;", .fieldLink RX5 135 "PhaseTones$Pad" "length" "I"] ++ wsX50 ++ wsX10)
def wsX5_fault_r1 : List Cond := [Cond.fieldLink RX5 36 "PhaseTones" "pad" "LPhaseTones$Pad;", Cond.methodLink RX5 119 yX1_findFault, Cond.instanceMethod yX1_findFault, Cond.selects RX1 yX1_findFault yX1_findFault, Cond.initialized RX1, Cond.code yX1_findFault cX1_findFault 2 (some .int), Cond.fieldLink RX1 19 "PhaseTones$Pad" "at" "I", Cond.fieldLink RX1 15 "PhaseTones$Pad" "length" "I", Cond.methodLink RX1 22 yX1_readOrder, Cond.instanceMethod yX1_readOrder, Cond.selects RX1 yX1_readOrder yX1_readOrder, Cond.code yX1_readOrder cX1_readOrder 1 (some .boolean), Cond.fieldLink RX1 30 "PhaseTones$Pad" "order" "I", Cond.fieldLink RX1 40 "PhaseTones$Pad" "wheel" "I", Cond.constant RX1 47 (65535), Cond.methodLink RX1 26 yX1_pass, Cond.instanceMethod yX1_pass, Cond.selects RX1 yX1_pass yX1_pass, Cond.code yX1_pass cX1_pass 2 (some .boolean), Cond.methodLink RX1 43 yX1_signHere, Cond.instanceMethod yX1_signHere, Cond.selects RX1 yX1_signHere yX1_signHere, Cond.code yX1_signHere cX1_signHere 1 (some .int), Cond.fieldLink RX1 9 "PhaseTones$Pad" "text" "[C"]
def wsX5_fault_r2 : List Cond := [Cond.methodLink RX1 33 yX1_readSamples, Cond.instanceMethod yX1_readSamples, Cond.selects RX1 yX1_readSamples yX1_readSamples, Cond.code yX1_readSamples cX1_readSamples 1 (some .boolean), Cond.fieldLink RX1 54 "PhaseTones$Pad" "samples" "I", Cond.methodLink RX1 36 yX1_readNumber, Cond.instanceMethod yX1_readNumber, Cond.selects RX1 yX1_readNumber yX1_readNumber, Cond.code yX1_readNumber cX1_readNumber 5 (some .int), Cond.methodLink RX1 57 yX1_digitHere, Cond.instanceMethod yX1_digitHere, Cond.selects RX1 yX1_digitHere yX1_digitHere, Cond.code yX1_digitHere cX1_digitHere 2 (some .int), Cond.static yX5_isOutside, Cond.initialized RX5, Cond.code yX5_isOutside cX5_isOutside 3 (some .boolean), Cond.methodLink RX1 48 yX1_readBehindSign, Cond.instanceMethod yX1_readBehindSign, Cond.selects RX1 yX1_readBehindSign yX1_readBehindSign, Cond.code yX1_readBehindSign cX1_readBehindSign 2 (some .boolean), Cond.fieldLink RX1 51 "PhaseTones$Pad" "number" "I"]
def wsX5_fault : List Cond := .code yX5_fault cX5_fault 1 (some .int) :: ((wsX5_fault_r1 ++ wsX5_fault_r2) ++ wsX50 ++ wsX10)
def wsX5_undo_r1 : List Cond := [Cond.fieldLink RX5 22 "PhaseTones" "history" "LPhaseTones$History;", Cond.fieldLink RX5 181 "PhaseTones$History" "kept" "I", Cond.fieldLink RX5 10 "PhaseTones" "now" "LPhaseTones$Sound;", Cond.methodLink RX5 208 yX0_bringBack, Cond.instanceMethod yX0_bringBack, Cond.selects RX0 yX0_bringBack yX0_bringBack, Cond.initialized RX0, Cond.code yX0_bringBack cX0_bringBack 2 none, Cond.fieldLink RX0 18 "PhaseTones$History" "recorded" "I", Cond.fieldLink RX0 32 "PhaseTones$History" "kept" "I", Cond.methodLink RX0 38 Lib.Math.max.name, Cond.static Lib.Math.max.name, Cond.initialized "java/lang/Math", Cond.code Lib.Math.max.name Lib.Math.max.code 2 (some .int), Cond.fieldLink RX0 11 "PhaseTones$History" "states" "[LPhaseTones$Sound;", Cond.methodLink RX0 22 yJ9_floorMod_7cf53, Cond.static yJ9_floorMod_7cf53, Cond.initialized RJ9, Cond.code yJ9_floorMod_7cf53 cJ9_floorMod_7cf53 3 (some .int), Cond.methodLink RX0 28 yX3_takeOver, Cond.instanceMethod yX3_takeOver, Cond.selects RX3 yX3_takeOver yX3_takeOver, Cond.initialized RX3, Cond.code yX3_takeOver cX3_takeOver 3 none]
def wsX5_undo_r2 : List Cond := [Cond.fieldLink RX3 9 "PhaseTones$Sound" "limit" "I", Cond.fieldLink RX3 15 "PhaseTones$Sound" "values" "[I", Cond.methodLink RX3 33 arraycopyName, Cond.native arraycopyName, Cond.static arraycopyName, Cond.initialized "java/lang/System", Cond.fieldLink RX3 21 "PhaseTones$Sound" "wheels" "[LPhaseTones$Wheel;", Cond.fieldLink RX3 43 "PhaseTones$Sound" "made" "I", Cond.fieldLink RX3 46 "PhaseTones$Sound" "clipped" "I", Cond.fieldLink RX3 49 "PhaseTones$Sound" "sum" "I", Cond.fieldLink RX3 52 "PhaseTones$Sound" "rises" "I", Cond.fieldLink RX3 25 "PhaseTones$Sound" "latest" "[I", Cond.methodLink RX3 39 yX4_takeOver, Cond.instanceMethod yX4_takeOver, Cond.selects RX4 yX4_takeOver yX4_takeOver, Cond.initialized RX4, Cond.code yX4_takeOver cX4_takeOver 2 none, Cond.fieldLink RX4 25 "PhaseTones$Wheel" "phase" "I", Cond.fieldLink RX4 9 "PhaseTones$Wheel" "step" "I", Cond.fieldLink RX4 28 "PhaseTones$Wheel" "table" "I", Cond.fieldLink RX4 15 "PhaseTones$Wheel" "volume" "I", Cond.fieldLink RX4 31 "PhaseTones$Wheel" "isOn" "Z", Cond.fieldLink RX4 35 "PhaseTones$Wheel" "sweeps" "I", Cond.fieldLink RX4 18 "PhaseTones$Wheel" "ends" "[I"]
def wsX5_undo_r3 : List Cond := [Cond.methodLink RX4 38 arraycopyName, Cond.fieldLink RX4 22 "PhaseTones$Wheel" "lengths" "[I", Cond.fieldLink RX4 44 "PhaseTones$Wheel" "begin" "I", Cond.fieldLink RX4 47 "PhaseTones$Wheel" "gone" "I"]
def wsX5_undo : List Cond := .code yX5_undo cX5_undo 1 (some .int) :: ((wsX5_undo_r1 ++ (wsX5_undo_r2 ++ wsX5_undo_r3)) ++ wsX50 ++ wsX00 ++ wsX30 ++ wsX40)
def wsX5_save_r1 : List Cond := [Cond.fieldLink RX5 29 "PhaseTones" "slots" "LPhaseTones$Slots;", Cond.fieldLink RX5 211 "PhaseTones$Slots" "sounds" "[LPhaseTones$Sound;", Cond.fieldLink RX5 10 "PhaseTones" "now" "LPhaseTones$Sound;", Cond.fieldLink RX5 215 "PhaseTones$Slots" "isSaved" "[Z", Cond.fieldLink RX5 154 "PhaseTones$Sound" "made" "I", Cond.methodLink RX5 40 yX5_isOutside, Cond.static yX5_isOutside, Cond.initialized RX5, Cond.code yX5_isOutside cX5_isOutside 3 (some .boolean), Cond.methodLink RX5 184 yX3_takeOver, Cond.instanceMethod yX3_takeOver, Cond.selects RX3 yX3_takeOver yX3_takeOver, Cond.initialized RX3, Cond.code yX3_takeOver cX3_takeOver 3 none, Cond.fieldLink RX3 9 "PhaseTones$Sound" "limit" "I", Cond.fieldLink RX3 15 "PhaseTones$Sound" "values" "[I", Cond.methodLink RX3 33 arraycopyName, Cond.native arraycopyName, Cond.static arraycopyName, Cond.initialized "java/lang/System", Cond.fieldLink RX3 21 "PhaseTones$Sound" "wheels" "[LPhaseTones$Wheel;", Cond.fieldLink RX3 43 "PhaseTones$Sound" "made" "I", Cond.fieldLink RX3 46 "PhaseTones$Sound" "clipped" "I", Cond.fieldLink RX3 49 "PhaseTones$Sound" "sum" "I"]
def wsX5_save_r2 : List Cond := [Cond.fieldLink RX3 52 "PhaseTones$Sound" "rises" "I", Cond.fieldLink RX3 25 "PhaseTones$Sound" "latest" "[I", Cond.methodLink RX3 39 yX4_takeOver, Cond.instanceMethod yX4_takeOver, Cond.selects RX4 yX4_takeOver yX4_takeOver, Cond.initialized RX4, Cond.code yX4_takeOver cX4_takeOver 2 none, Cond.fieldLink RX4 25 "PhaseTones$Wheel" "phase" "I", Cond.fieldLink RX4 9 "PhaseTones$Wheel" "step" "I", Cond.fieldLink RX4 28 "PhaseTones$Wheel" "table" "I", Cond.fieldLink RX4 15 "PhaseTones$Wheel" "volume" "I", Cond.fieldLink RX4 31 "PhaseTones$Wheel" "isOn" "Z", Cond.fieldLink RX4 35 "PhaseTones$Wheel" "sweeps" "I", Cond.fieldLink RX4 18 "PhaseTones$Wheel" "ends" "[I", Cond.methodLink RX4 38 arraycopyName, Cond.fieldLink RX4 22 "PhaseTones$Wheel" "lengths" "[I", Cond.fieldLink RX4 44 "PhaseTones$Wheel" "begin" "I", Cond.fieldLink RX4 47 "PhaseTones$Wheel" "gone" "I"]
def wsX5_save : List Cond := .code yX5_save cX5_save 2 (some .int) :: ((wsX5_save_r1 ++ wsX5_save_r2) ++ wsX50 ++ wsX20 ++ wsX30 ++ wsX40)
def wsX5_restore_r1 : List Cond := [Cond.fieldLink RX5 29 "PhaseTones" "slots" "LPhaseTones$Slots;", Cond.fieldLink RX5 215 "PhaseTones$Slots" "isSaved" "[Z", Cond.fieldLink RX5 22 "PhaseTones" "history" "LPhaseTones$History;", Cond.fieldLink RX5 10 "PhaseTones" "now" "LPhaseTones$Sound;", Cond.fieldLink RX5 211 "PhaseTones$Slots" "sounds" "[LPhaseTones$Sound;", Cond.fieldLink RX5 154 "PhaseTones$Sound" "made" "I", Cond.methodLink RX5 40 yX5_isOutside, Cond.static yX5_isOutside, Cond.initialized RX5, Cond.code yX5_isOutside cX5_isOutside 3 (some .boolean), Cond.methodLink RX5 44 yX0_keep, Cond.instanceMethod yX0_keep, Cond.selects RX0 yX0_keep yX0_keep, Cond.initialized RX0, Cond.code yX0_keep cX0_keep 2 none, Cond.fieldLink RX0 11 "PhaseTones$History" "states" "[LPhaseTones$Sound;", Cond.fieldLink RX0 18 "PhaseTones$History" "recorded" "I", Cond.fieldLink RX0 32 "PhaseTones$History" "kept" "I", Cond.methodLink RX0 35 Lib.Math.min.name, Cond.static Lib.Math.min.name, Cond.initialized "java/lang/Math", Cond.code Lib.Math.min.name Lib.Math.min.code 2 (some .int), Cond.methodLink RX0 22 yJ9_floorMod_7cf53, Cond.static yJ9_floorMod_7cf53]
def wsX5_restore_r2 : List Cond := [Cond.initialized RJ9, Cond.code yJ9_floorMod_7cf53 cJ9_floorMod_7cf53 3 (some .int), Cond.methodLink RX0 28 yX3_takeOver, Cond.instanceMethod yX3_takeOver, Cond.selects RX3 yX3_takeOver yX3_takeOver, Cond.initialized RX3, Cond.code yX3_takeOver cX3_takeOver 3 none, Cond.fieldLink RX3 9 "PhaseTones$Sound" "limit" "I", Cond.fieldLink RX3 15 "PhaseTones$Sound" "values" "[I", Cond.methodLink RX3 33 arraycopyName, Cond.native arraycopyName, Cond.static arraycopyName, Cond.initialized "java/lang/System", Cond.fieldLink RX3 21 "PhaseTones$Sound" "wheels" "[LPhaseTones$Wheel;", Cond.fieldLink RX3 43 "PhaseTones$Sound" "made" "I", Cond.fieldLink RX3 46 "PhaseTones$Sound" "clipped" "I", Cond.fieldLink RX3 49 "PhaseTones$Sound" "sum" "I", Cond.fieldLink RX3 52 "PhaseTones$Sound" "rises" "I", Cond.fieldLink RX3 25 "PhaseTones$Sound" "latest" "[I", Cond.methodLink RX3 39 yX4_takeOver, Cond.instanceMethod yX4_takeOver, Cond.selects RX4 yX4_takeOver yX4_takeOver, Cond.initialized RX4, Cond.code yX4_takeOver cX4_takeOver 2 none]
def wsX5_restore_r3 : List Cond := [Cond.fieldLink RX4 25 "PhaseTones$Wheel" "phase" "I", Cond.fieldLink RX4 9 "PhaseTones$Wheel" "step" "I", Cond.fieldLink RX4 28 "PhaseTones$Wheel" "table" "I", Cond.fieldLink RX4 15 "PhaseTones$Wheel" "volume" "I", Cond.fieldLink RX4 31 "PhaseTones$Wheel" "isOn" "Z", Cond.fieldLink RX4 35 "PhaseTones$Wheel" "sweeps" "I", Cond.fieldLink RX4 18 "PhaseTones$Wheel" "ends" "[I", Cond.methodLink RX4 38 arraycopyName, Cond.fieldLink RX4 22 "PhaseTones$Wheel" "lengths" "[I", Cond.fieldLink RX4 44 "PhaseTones$Wheel" "begin" "I", Cond.fieldLink RX4 47 "PhaseTones$Wheel" "gone" "I", Cond.methodLink RX5 184 yX3_takeOver]
def wsX5_restore : List Cond := .code yX5_restore cX5_restore 2 (some .int) :: ((wsX5_restore_r1 ++ (wsX5_restore_r2 ++ wsX5_restore_r3)) ++ wsX50 ++ wsX20 ++ wsX30 ++ wsX00 ++ wsX40)
def wsX6_w : List Cond := .code yX6_w cX6_w 1 (some .int) :: ([])
def wsX6_init : List Cond := .code yX6_init cX6_init 2 none :: ([.methodLink RX6 1 objectInit, .instanceMethod objectInit, .code objectInit ⟨#[0xb1]⟩ 1 none, .arrayClass .int, .fieldLink RX6 7 "PhaseTonesModel" "s" "[I", .fieldLink RX6 13 "PhaseTonesModel" "spare" "[I", .fieldLink RX6 16 "PhaseTonesModel" "trial" "[I", .fieldLink RX6 19 "PhaseTonesModel" "before" "[I", .fieldLink RX6 22 "PhaseTonesModel" "saved" "[I", .arrayClass .boolean, .fieldLink RX6 25 "PhaseTonesModel" "isSaved" "[Z", .fieldLink RX6 29 "PhaseTonesModel" "read" "[I", .arrayClass .char, .fieldLink RX6 32 "PhaseTonesModel" "pad" "[C", .methodLink RX6 36 yX6_w, .static yX6_w, .initialized RX6, .code yX6_w cX6_w 1 (some .int)] ++ wsX60)
def wsX6_in : List Cond := .code yX6_in cX6_in 3 (some .boolean) :: ([])
def wsX6_isOne : List Cond := .code yX6_isOne cX6_isOne 1 (some .boolean) :: ([.methodLink RX6 40 yX6_in, .static yX6_in, .initialized RX6, .code yX6_in cX6_in 3 (some .boolean)])
def wsX6_hold : List Cond := .code yX6_hold cX6_hold 2 none :: ([.fieldLink RX6 13 "PhaseTonesModel" "spare" "[I", .fieldLink RX6 7 "PhaseTonesModel" "s" "[I"] ++ wsX60)
def wsX6_recorded : List Cond := .code yX6_recorded cX6_recorded 3 (some .int) :: ([.fieldLink RX6 44 "PhaseTonesModel" "states" "I", .fieldLink RX6 19 "PhaseTonesModel" "before" "[I", .fieldLink RX6 13 "PhaseTonesModel" "spare" "[I"] ++ wsX60)
def wsX6_keepTrial : List Cond := .code yX6_keepTrial cX6_keepTrial 2 none :: ([.fieldLink RX6 16 "PhaseTonesModel" "trial" "[I", .fieldLink RX6 7 "PhaseTonesModel" "s" "[I"] ++ wsX60)
def wsX6_putBack : List Cond := .code yX6_putBack cX6_putBack 2 none :: ([.fieldLink RX6 7 "PhaseTonesModel" "s" "[I", .fieldLink RX6 16 "PhaseTonesModel" "trial" "[I"] ++ wsX60)
def wsX6_gives : List Cond := .code yX6_gives cX6_gives 3 (some .int) :: ([.fieldLink RX6 7 "PhaseTonesModel" "s" "[I", .methodLink RX6 36 yX6_w, .static yX6_w, .initialized RX6, .code yX6_w cX6_w 1 (some .int)] ++ wsX60)
def wsX6_mixture : List Cond := .code yX6_mixture cX6_mixture 3 (some .int) :: ([.fieldLink RX6 7 "PhaseTonesModel" "s" "[I", .methodLink RX6 36 yX6_w, .static yX6_w, .initialized RX6, .code yX6_w cX6_w 1 (some .int), .methodLink RX6 48 yX6_gives, .instanceMethod yX6_gives, .selects RX6 yX6_gives yX6_gives, .code yX6_gives cX6_gives 3 (some .int)] ++ wsX60)
def wsX6_goesOn : List Cond := .code yX6_goesOn cX6_goesOn 4 none :: ([.fieldLink RX6 7 "PhaseTonesModel" "s" "[I", .constant RX6 51 (65536), .methodLink RX6 36 yX6_w, .static yX6_w, .initialized RX6, .code yX6_w cX6_w 1 (some .int)] ++ wsX60)
def wsX6_makes : List Cond := .code yX6_makes cX6_makes 4 (some .int) :: ([.fieldLink RX6 7 "PhaseTonesModel" "s" "[I", .constant RX6 56 (1000003), .methodLink RX6 52 yX6_mixture, .instanceMethod yX6_mixture, .selects RX6 yX6_mixture yX6_mixture, .initialized RX6, .code yX6_mixture cX6_mixture 3 (some .int), .methodLink RX6 36 yX6_w, .static yX6_w, .code yX6_w cX6_w 1 (some .int), .methodLink RX6 48 yX6_gives, .instanceMethod yX6_gives, .selects RX6 yX6_gives yX6_gives, .code yX6_gives cX6_gives 3 (some .int), .methodLink RX6 57 yX6_goesOn, .instanceMethod yX6_goesOn, .selects RX6 yX6_goesOn yX6_goesOn, .code yX6_goesOn cX6_goesOn 4 none, .constant RX6 51 (65536)] ++ wsX60)
def wsX6_steps : List Cond := .code yX6_steps cX6_steps 5 (some .int) :: ([.constant RX6 65 (65535), .fieldLink RX6 7 "PhaseTonesModel" "s" "[I", .methodLink RX6 61 yX6_isOne, .static yX6_isOne, .initialized RX6, .code yX6_isOne cX6_isOne 1 (some .boolean), .methodLink RX6 40 yX6_in, .static yX6_in, .code yX6_in cX6_in 3 (some .boolean), .methodLink RX6 36 yX6_w, .static yX6_w, .code yX6_w cX6_w 1 (some .int)] ++ wsX60)
def wsX6_tables : List Cond := .code yX6_tables cX6_tables 4 (some .int) :: ([.fieldLink RX6 7 "PhaseTonesModel" "s" "[I", .methodLink RX6 61 yX6_isOne, .static yX6_isOne, .initialized RX6, .code yX6_isOne cX6_isOne 1 (some .boolean), .methodLink RX6 40 yX6_in, .static yX6_in, .code yX6_in cX6_in 3 (some .boolean), .methodLink RX6 36 yX6_w, .static yX6_w, .code yX6_w cX6_w 1 (some .int)] ++ wsX60)
def wsX6_volumes : List Cond := .code yX6_volumes cX6_volumes 4 (some .int) :: ([.fieldLink RX6 7 "PhaseTonesModel" "s" "[I", .methodLink RX6 61 yX6_isOne, .static yX6_isOne, .initialized RX6, .code yX6_isOne cX6_isOne 1 (some .boolean), .methodLink RX6 40 yX6_in, .static yX6_in, .code yX6_in cX6_in 3 (some .boolean), .methodLink RX6 36 yX6_w, .static yX6_w, .code yX6_w cX6_w 1 (some .int)] ++ wsX60)
def wsX6_onWheels : List Cond := .code yX6_onWheels cX6_onWheels 3 (some .int) :: ([.fieldLink RX6 7 "PhaseTonesModel" "s" "[I", .methodLink RX6 36 yX6_w, .static yX6_w, .initialized RX6, .code yX6_w cX6_w 1 (some .int)] ++ wsX60)
def wsX6_turns : List Cond := .code yX6_turns cX6_turns 4 (some .int) :: ([.fieldLink RX6 7 "PhaseTonesModel" "s" "[I", .methodLink RX6 61 yX6_isOne, .static yX6_isOne, .initialized RX6, .code yX6_isOne cX6_isOne 1 (some .boolean), .methodLink RX6 40 yX6_in, .static yX6_in, .code yX6_in cX6_in 3 (some .boolean), .methodLink RX6 36 yX6_w, .static yX6_w, .code yX6_w cX6_w 1 (some .int), .methodLink RX6 66 yX6_onWheels, .instanceMethod yX6_onWheels, .selects RX6 yX6_onWheels yX6_onWheels, .code yX6_onWheels cX6_onWheels 3 (some .int)] ++ wsX60)
def wsX6_sweeps : List Cond := .code yX6_sweeps cX6_sweeps 6 (some .int) :: ([.constant RX6 65 (65535), .fieldLink RX6 7 "PhaseTonesModel" "s" "[I", .methodLink RX6 61 yX6_isOne, .static yX6_isOne, .initialized RX6, .code yX6_isOne cX6_isOne 1 (some .boolean), .methodLink RX6 40 yX6_in, .static yX6_in, .code yX6_in cX6_in 3 (some .boolean), .methodLink RX6 36 yX6_w, .static yX6_w, .code yX6_w cX6_w 1 (some .int)] ++ wsX60)
def wsX6_makesAll_r1 : List Cond := [Cond.fieldLink RX6 7 "PhaseTonesModel" "s" "[I", Cond.constant RX6 69 (999999), Cond.methodLink RX6 40 yX6_in, Cond.static yX6_in, Cond.initialized RX6, Cond.code yX6_in cX6_in 3 (some .boolean), Cond.methodLink RX6 70 yX6_makes, Cond.instanceMethod yX6_makes, Cond.selects RX6 yX6_makes yX6_makes, Cond.code yX6_makes cX6_makes 4 (some .int), Cond.constant RX6 56 (1000003), Cond.methodLink RX6 52 yX6_mixture, Cond.instanceMethod yX6_mixture, Cond.selects RX6 yX6_mixture yX6_mixture, Cond.code yX6_mixture cX6_mixture 3 (some .int), Cond.methodLink RX6 36 yX6_w, Cond.static yX6_w, Cond.code yX6_w cX6_w 1 (some .int), Cond.methodLink RX6 48 yX6_gives, Cond.instanceMethod yX6_gives, Cond.selects RX6 yX6_gives yX6_gives, Cond.code yX6_gives cX6_gives 3 (some .int), Cond.methodLink RX6 57 yX6_goesOn, Cond.instanceMethod yX6_goesOn]
def wsX6_makesAll_r2 : List Cond := [Cond.selects RX6 yX6_goesOn yX6_goesOn, Cond.code yX6_goesOn cX6_goesOn 4 none, Cond.constant RX6 51 (65536)]
def wsX6_makesAll : List Cond := .code yX6_makesAll cX6_makesAll 4 (some .int) :: ((wsX6_makesAll_r1 ++ wsX6_makesAll_r2) ++ wsX60)
def wsX6_clip : List Cond := .code yX6_clip cX6_clip 3 (some .int) :: ([.fieldLink RX6 7 "PhaseTonesModel" "s" "[I", .methodLink RX6 40 yX6_in, .static yX6_in, .initialized RX6, .code yX6_in cX6_in 3 (some .boolean), .methodLink RX6 73 yX6_hold, .instanceMethod yX6_hold, .selects RX6 yX6_hold yX6_hold, .code yX6_hold cX6_hold 2 none, .fieldLink RX6 13 "PhaseTonesModel" "spare" "[I", .methodLink RX6 76 yX6_recorded, .instanceMethod yX6_recorded, .selects RX6 yX6_recorded yX6_recorded, .code yX6_recorded cX6_recorded 3 (some .int), .fieldLink RX6 44 "PhaseTonesModel" "states" "I", .fieldLink RX6 19 "PhaseTonesModel" "before" "[I"] ++ wsX60)
def wsX6_fill : List Cond := .code yX6_fill cX6_fill 5 (some .int) :: ([.fieldLink RX6 7 "PhaseTonesModel" "s" "[I", .methodLink RX6 61 yX6_isOne, .static yX6_isOne, .initialized RX6, .code yX6_isOne cX6_isOne 1 (some .boolean), .methodLink RX6 40 yX6_in, .static yX6_in, .code yX6_in cX6_in 3 (some .boolean), .methodLink RX6 73 yX6_hold, .instanceMethod yX6_hold, .selects RX6 yX6_hold yX6_hold, .code yX6_hold cX6_hold 2 none, .fieldLink RX6 13 "PhaseTonesModel" "spare" "[I", .methodLink RX6 76 yX6_recorded, .instanceMethod yX6_recorded, .selects RX6 yX6_recorded yX6_recorded, .code yX6_recorded cX6_recorded 3 (some .int), .fieldLink RX6 44 "PhaseTonesModel" "states" "I", .fieldLink RX6 19 "PhaseTonesModel" "before" "[I"] ++ wsX60)
def wsX6_step_r1 : List Cond := [Cond.methodLink RX6 73 yX6_hold, Cond.instanceMethod yX6_hold, Cond.selects RX6 yX6_hold yX6_hold, Cond.initialized RX6, Cond.code yX6_hold cX6_hold 2 none, Cond.fieldLink RX6 13 "PhaseTonesModel" "spare" "[I", Cond.fieldLink RX6 7 "PhaseTonesModel" "s" "[I", Cond.methodLink RX6 79 yX6_steps, Cond.instanceMethod yX6_steps, Cond.selects RX6 yX6_steps yX6_steps, Cond.code yX6_steps cX6_steps 5 (some .int), Cond.constant RX6 65 (65535), Cond.methodLink RX6 61 yX6_isOne, Cond.static yX6_isOne, Cond.code yX6_isOne cX6_isOne 1 (some .boolean), Cond.methodLink RX6 40 yX6_in, Cond.static yX6_in, Cond.code yX6_in cX6_in 3 (some .boolean), Cond.methodLink RX6 36 yX6_w, Cond.static yX6_w, Cond.code yX6_w cX6_w 1 (some .int), Cond.methodLink RX6 76 yX6_recorded, Cond.instanceMethod yX6_recorded, Cond.selects RX6 yX6_recorded yX6_recorded]
def wsX6_step_r2 : List Cond := [Cond.code yX6_recorded cX6_recorded 3 (some .int), Cond.fieldLink RX6 44 "PhaseTonesModel" "states" "I", Cond.fieldLink RX6 19 "PhaseTonesModel" "before" "[I"]
def wsX6_step : List Cond := .code yX6_step cX6_step 3 (some .int) :: ((wsX6_step_r1 ++ wsX6_step_r2) ++ wsX60)
def wsX6_table_r1 : List Cond := [Cond.methodLink RX6 73 yX6_hold, Cond.instanceMethod yX6_hold, Cond.selects RX6 yX6_hold yX6_hold, Cond.initialized RX6, Cond.code yX6_hold cX6_hold 2 none, Cond.fieldLink RX6 13 "PhaseTonesModel" "spare" "[I", Cond.fieldLink RX6 7 "PhaseTonesModel" "s" "[I", Cond.methodLink RX6 83 yX6_tables, Cond.instanceMethod yX6_tables, Cond.selects RX6 yX6_tables yX6_tables, Cond.code yX6_tables cX6_tables 4 (some .int), Cond.methodLink RX6 61 yX6_isOne, Cond.static yX6_isOne, Cond.code yX6_isOne cX6_isOne 1 (some .boolean), Cond.methodLink RX6 40 yX6_in, Cond.static yX6_in, Cond.code yX6_in cX6_in 3 (some .boolean), Cond.methodLink RX6 36 yX6_w, Cond.static yX6_w, Cond.code yX6_w cX6_w 1 (some .int), Cond.methodLink RX6 76 yX6_recorded, Cond.instanceMethod yX6_recorded, Cond.selects RX6 yX6_recorded yX6_recorded, Cond.code yX6_recorded cX6_recorded 3 (some .int)]
def wsX6_table_r2 : List Cond := [Cond.fieldLink RX6 44 "PhaseTonesModel" "states" "I", Cond.fieldLink RX6 19 "PhaseTonesModel" "before" "[I"]
def wsX6_table : List Cond := .code yX6_table cX6_table 3 (some .int) :: ((wsX6_table_r1 ++ wsX6_table_r2) ++ wsX60)
def wsX6_volume_r1 : List Cond := [Cond.methodLink RX6 73 yX6_hold, Cond.instanceMethod yX6_hold, Cond.selects RX6 yX6_hold yX6_hold, Cond.initialized RX6, Cond.code yX6_hold cX6_hold 2 none, Cond.fieldLink RX6 13 "PhaseTonesModel" "spare" "[I", Cond.fieldLink RX6 7 "PhaseTonesModel" "s" "[I", Cond.methodLink RX6 86 yX6_volumes, Cond.instanceMethod yX6_volumes, Cond.selects RX6 yX6_volumes yX6_volumes, Cond.code yX6_volumes cX6_volumes 4 (some .int), Cond.methodLink RX6 61 yX6_isOne, Cond.static yX6_isOne, Cond.code yX6_isOne cX6_isOne 1 (some .boolean), Cond.methodLink RX6 40 yX6_in, Cond.static yX6_in, Cond.code yX6_in cX6_in 3 (some .boolean), Cond.methodLink RX6 36 yX6_w, Cond.static yX6_w, Cond.code yX6_w cX6_w 1 (some .int), Cond.methodLink RX6 76 yX6_recorded, Cond.instanceMethod yX6_recorded, Cond.selects RX6 yX6_recorded yX6_recorded, Cond.code yX6_recorded cX6_recorded 3 (some .int)]
def wsX6_volume_r2 : List Cond := [Cond.fieldLink RX6 44 "PhaseTonesModel" "states" "I", Cond.fieldLink RX6 19 "PhaseTonesModel" "before" "[I"]
def wsX6_volume : List Cond := .code yX6_volume cX6_volume 3 (some .int) :: ((wsX6_volume_r1 ++ wsX6_volume_r2) ++ wsX60)
def wsX6_turn_r1 : List Cond := [Cond.methodLink RX6 73 yX6_hold, Cond.instanceMethod yX6_hold, Cond.selects RX6 yX6_hold yX6_hold, Cond.initialized RX6, Cond.code yX6_hold cX6_hold 2 none, Cond.fieldLink RX6 13 "PhaseTonesModel" "spare" "[I", Cond.fieldLink RX6 7 "PhaseTonesModel" "s" "[I", Cond.methodLink RX6 89 yX6_turns, Cond.instanceMethod yX6_turns, Cond.selects RX6 yX6_turns yX6_turns, Cond.code yX6_turns cX6_turns 4 (some .int), Cond.methodLink RX6 61 yX6_isOne, Cond.static yX6_isOne, Cond.code yX6_isOne cX6_isOne 1 (some .boolean), Cond.methodLink RX6 40 yX6_in, Cond.static yX6_in, Cond.code yX6_in cX6_in 3 (some .boolean), Cond.methodLink RX6 36 yX6_w, Cond.static yX6_w, Cond.code yX6_w cX6_w 1 (some .int), Cond.methodLink RX6 66 yX6_onWheels, Cond.instanceMethod yX6_onWheels, Cond.selects RX6 yX6_onWheels yX6_onWheels, Cond.code yX6_onWheels cX6_onWheels 3 (some .int)]
def wsX6_turn_r2 : List Cond := [Cond.methodLink RX6 76 yX6_recorded, Cond.instanceMethod yX6_recorded, Cond.selects RX6 yX6_recorded yX6_recorded, Cond.code yX6_recorded cX6_recorded 3 (some .int), Cond.fieldLink RX6 44 "PhaseTonesModel" "states" "I", Cond.fieldLink RX6 19 "PhaseTonesModel" "before" "[I"]
def wsX6_turn : List Cond := .code yX6_turn cX6_turn 3 (some .int) :: ((wsX6_turn_r1 ++ wsX6_turn_r2) ++ wsX60)
def wsX6_phase : List Cond := .code yX6_phase cX6_phase 4 (some .int) :: ([.constant RX6 65 (65535), .fieldLink RX6 7 "PhaseTonesModel" "s" "[I", .methodLink RX6 61 yX6_isOne, .static yX6_isOne, .initialized RX6, .code yX6_isOne cX6_isOne 1 (some .boolean), .methodLink RX6 40 yX6_in, .static yX6_in, .code yX6_in cX6_in 3 (some .boolean), .methodLink RX6 73 yX6_hold, .instanceMethod yX6_hold, .selects RX6 yX6_hold yX6_hold, .code yX6_hold cX6_hold 2 none, .fieldLink RX6 13 "PhaseTonesModel" "spare" "[I", .methodLink RX6 36 yX6_w, .static yX6_w, .code yX6_w cX6_w 1 (some .int), .methodLink RX6 76 yX6_recorded, .instanceMethod yX6_recorded, .selects RX6 yX6_recorded yX6_recorded, .code yX6_recorded cX6_recorded 3 (some .int), .fieldLink RX6 44 "PhaseTonesModel" "states" "I", .fieldLink RX6 19 "PhaseTonesModel" "before" "[I"] ++ wsX60)
def wsX6_sweep_r1 : List Cond := [Cond.methodLink RX6 73 yX6_hold, Cond.instanceMethod yX6_hold, Cond.selects RX6 yX6_hold yX6_hold, Cond.initialized RX6, Cond.code yX6_hold cX6_hold 2 none, Cond.fieldLink RX6 13 "PhaseTonesModel" "spare" "[I", Cond.fieldLink RX6 7 "PhaseTonesModel" "s" "[I", Cond.methodLink RX6 92 yX6_sweeps, Cond.instanceMethod yX6_sweeps, Cond.selects RX6 yX6_sweeps yX6_sweeps, Cond.code yX6_sweeps cX6_sweeps 6 (some .int), Cond.constant RX6 65 (65535), Cond.methodLink RX6 61 yX6_isOne, Cond.static yX6_isOne, Cond.code yX6_isOne cX6_isOne 1 (some .boolean), Cond.methodLink RX6 40 yX6_in, Cond.static yX6_in, Cond.code yX6_in cX6_in 3 (some .boolean), Cond.methodLink RX6 36 yX6_w, Cond.static yX6_w, Cond.code yX6_w cX6_w 1 (some .int), Cond.methodLink RX6 76 yX6_recorded, Cond.instanceMethod yX6_recorded, Cond.selects RX6 yX6_recorded yX6_recorded]
def wsX6_sweep_r2 : List Cond := [Cond.code yX6_recorded cX6_recorded 3 (some .int), Cond.fieldLink RX6 44 "PhaseTonesModel" "states" "I", Cond.fieldLink RX6 19 "PhaseTonesModel" "before" "[I"]
def wsX6_sweep : List Cond := .code yX6_sweep cX6_sweep 4 (some .int) :: ((wsX6_sweep_r1 ++ wsX6_sweep_r2) ++ wsX60)
def wsX6_make_r1 : List Cond := [Cond.methodLink RX6 73 yX6_hold, Cond.instanceMethod yX6_hold, Cond.selects RX6 yX6_hold yX6_hold, Cond.initialized RX6, Cond.code yX6_hold cX6_hold 2 none, Cond.fieldLink RX6 13 "PhaseTonesModel" "spare" "[I", Cond.fieldLink RX6 7 "PhaseTonesModel" "s" "[I", Cond.methodLink RX6 96 yX6_makesAll, Cond.instanceMethod yX6_makesAll, Cond.selects RX6 yX6_makesAll yX6_makesAll, Cond.code yX6_makesAll cX6_makesAll 4 (some .int), Cond.constant RX6 69 (999999), Cond.methodLink RX6 40 yX6_in, Cond.static yX6_in, Cond.code yX6_in cX6_in 3 (some .boolean), Cond.methodLink RX6 70 yX6_makes, Cond.instanceMethod yX6_makes, Cond.selects RX6 yX6_makes yX6_makes, Cond.code yX6_makes cX6_makes 4 (some .int), Cond.constant RX6 56 (1000003), Cond.methodLink RX6 52 yX6_mixture, Cond.instanceMethod yX6_mixture, Cond.selects RX6 yX6_mixture yX6_mixture, Cond.code yX6_mixture cX6_mixture 3 (some .int)]
def wsX6_make_r2 : List Cond := [Cond.methodLink RX6 36 yX6_w, Cond.static yX6_w, Cond.code yX6_w cX6_w 1 (some .int), Cond.methodLink RX6 48 yX6_gives, Cond.instanceMethod yX6_gives, Cond.selects RX6 yX6_gives yX6_gives, Cond.code yX6_gives cX6_gives 3 (some .int), Cond.methodLink RX6 57 yX6_goesOn, Cond.instanceMethod yX6_goesOn, Cond.selects RX6 yX6_goesOn yX6_goesOn, Cond.code yX6_goesOn cX6_goesOn 4 none, Cond.constant RX6 51 (65536), Cond.methodLink RX6 76 yX6_recorded, Cond.instanceMethod yX6_recorded, Cond.selects RX6 yX6_recorded yX6_recorded, Cond.code yX6_recorded cX6_recorded 3 (some .int), Cond.fieldLink RX6 44 "PhaseTonesModel" "states" "I", Cond.fieldLink RX6 19 "PhaseTonesModel" "before" "[I"]
def wsX6_make : List Cond := .code yX6_make cX6_make 2 (some .int) :: ((wsX6_make_r1 ++ wsX6_make_r2) ++ wsX60)
def wsX6_isSign : List Cond := .code yX6_isSign cX6_isSign 3 (some .boolean) :: ([.fieldLink RX6 99 "PhaseTonesModel" "at" "I", .fieldLink RX6 102 "PhaseTonesModel" "length" "I", .fieldLink RX6 32 "PhaseTonesModel" "pad" "[C"] ++ wsX60)
def wsX6_accepts : List Cond := .code yX6_accepts cX6_accepts 3 (some .boolean) :: ([.fieldLink RX6 99 "PhaseTonesModel" "at" "I", .methodLink RX6 105 yX6_isSign, .instanceMethod yX6_isSign, .selects RX6 yX6_isSign yX6_isSign, .initialized RX6, .code yX6_isSign cX6_isSign 3 (some .boolean), .fieldLink RX6 102 "PhaseTonesModel" "length" "I", .fieldLink RX6 32 "PhaseTonesModel" "pad" "[C"] ++ wsX60)
def wsX6_number : List Cond := .code yX6_number cX6_number 5 (some .boolean) :: ([.fieldLink RX6 109 "PhaseTonesModel" "orders" "I", .fieldLink RX6 29 "PhaseTonesModel" "read" "[I", .fieldLink RX6 32 "PhaseTonesModel" "pad" "[C", .fieldLink RX6 99 "PhaseTonesModel" "at" "I", .methodLink RX6 105 yX6_isSign, .instanceMethod yX6_isSign, .selects RX6 yX6_isSign yX6_isSign, .initialized RX6, .code yX6_isSign cX6_isSign 3 (some .boolean), .fieldLink RX6 102 "PhaseTonesModel" "length" "I"] ++ wsX60)
def wsX6_digit : List Cond := .code yX6_digit cX6_digit 3 (some .boolean) :: ([.fieldLink RX6 29 "PhaseTonesModel" "read" "[I", .fieldLink RX6 109 "PhaseTonesModel" "orders" "I", .fieldLink RX6 32 "PhaseTonesModel" "pad" "[C", .fieldLink RX6 99 "PhaseTonesModel" "at" "I", .methodLink RX6 105 yX6_isSign, .instanceMethod yX6_isSign, .selects RX6 yX6_isSign yX6_isSign, .initialized RX6, .code yX6_isSign cX6_isSign 3 (some .boolean), .fieldLink RX6 102 "PhaseTonesModel" "length" "I"] ++ wsX60)
def wsX6_readsRest : List Cond := .code yX6_readsRest cX6_readsRest 1 (some .boolean) :: ([.fieldLink RX6 29 "PhaseTonesModel" "read" "[I", .fieldLink RX6 109 "PhaseTonesModel" "orders" "I", .fieldLink RX6 99 "PhaseTonesModel" "at" "I", .fieldLink RX6 102 "PhaseTonesModel" "length" "I", .fieldLink RX6 32 "PhaseTonesModel" "pad" "[C", .constant RX6 65 (65535), .methodLink RX6 112 yX6_accepts, .instanceMethod yX6_accepts, .selects RX6 yX6_accepts yX6_accepts, .initialized RX6, .code yX6_accepts cX6_accepts 3 (some .boolean), .methodLink RX6 105 yX6_isSign, .instanceMethod yX6_isSign, .selects RX6 yX6_isSign yX6_isSign, .code yX6_isSign cX6_isSign 3 (some .boolean), .methodLink RX6 116 yX6_number, .instanceMethod yX6_number, .selects RX6 yX6_number yX6_number, .code yX6_number cX6_number 5 (some .boolean), .methodLink RX6 119 yX6_digit, .instanceMethod yX6_digit, .selects RX6 yX6_digit yX6_digit, .code yX6_digit cX6_digit 3 (some .boolean)] ++ wsX60)
def wsX6_readsOrder_r1 : List Cond := [Cond.fieldLink RX6 29 "PhaseTonesModel" "read" "[I", Cond.fieldLink RX6 109 "PhaseTonesModel" "orders" "I", Cond.methodLink RX6 112 yX6_accepts, Cond.instanceMethod yX6_accepts, Cond.selects RX6 yX6_accepts yX6_accepts, Cond.initialized RX6, Cond.code yX6_accepts cX6_accepts 3 (some .boolean), Cond.fieldLink RX6 99 "PhaseTonesModel" "at" "I", Cond.methodLink RX6 105 yX6_isSign, Cond.instanceMethod yX6_isSign, Cond.selects RX6 yX6_isSign yX6_isSign, Cond.code yX6_isSign cX6_isSign 3 (some .boolean), Cond.fieldLink RX6 102 "PhaseTonesModel" "length" "I", Cond.fieldLink RX6 32 "PhaseTonesModel" "pad" "[C", Cond.methodLink RX6 116 yX6_number, Cond.instanceMethod yX6_number, Cond.selects RX6 yX6_number yX6_number, Cond.code yX6_number cX6_number 5 (some .boolean), Cond.methodLink RX6 119 yX6_digit, Cond.instanceMethod yX6_digit, Cond.selects RX6 yX6_digit yX6_digit, Cond.code yX6_digit cX6_digit 3 (some .boolean), Cond.methodLink RX6 122 yX6_readsRest, Cond.instanceMethod yX6_readsRest]
def wsX6_readsOrder_r2 : List Cond := [Cond.selects RX6 yX6_readsRest yX6_readsRest, Cond.code yX6_readsRest cX6_readsRest 1 (some .boolean), Cond.constant RX6 65 (65535)]
def wsX6_readsOrder : List Cond := .code yX6_readsOrder cX6_readsOrder 2 (some .boolean) :: ((wsX6_readsOrder_r1 ++ wsX6_readsOrder_r2) ++ wsX60)
def wsX6_faultOf_r1 : List Cond := [Cond.fieldLink RX6 99 "PhaseTonesModel" "at" "I", Cond.fieldLink RX6 109 "PhaseTonesModel" "orders" "I", Cond.fieldLink RX6 102 "PhaseTonesModel" "length" "I", Cond.methodLink RX6 126 yX6_readsOrder, Cond.instanceMethod yX6_readsOrder, Cond.selects RX6 yX6_readsOrder yX6_readsOrder, Cond.initialized RX6, Cond.code yX6_readsOrder cX6_readsOrder 2 (some .boolean), Cond.fieldLink RX6 29 "PhaseTonesModel" "read" "[I", Cond.methodLink RX6 112 yX6_accepts, Cond.instanceMethod yX6_accepts, Cond.selects RX6 yX6_accepts yX6_accepts, Cond.code yX6_accepts cX6_accepts 3 (some .boolean), Cond.methodLink RX6 105 yX6_isSign, Cond.instanceMethod yX6_isSign, Cond.selects RX6 yX6_isSign yX6_isSign, Cond.code yX6_isSign cX6_isSign 3 (some .boolean), Cond.fieldLink RX6 32 "PhaseTonesModel" "pad" "[C", Cond.methodLink RX6 116 yX6_number, Cond.instanceMethod yX6_number, Cond.selects RX6 yX6_number yX6_number, Cond.code yX6_number cX6_number 5 (some .boolean), Cond.methodLink RX6 119 yX6_digit, Cond.instanceMethod yX6_digit]
def wsX6_faultOf_r2 : List Cond := [Cond.selects RX6 yX6_digit yX6_digit, Cond.code yX6_digit cX6_digit 3 (some .boolean), Cond.methodLink RX6 122 yX6_readsRest, Cond.instanceMethod yX6_readsRest, Cond.selects RX6 yX6_readsRest yX6_readsRest, Cond.code yX6_readsRest cX6_readsRest 1 (some .boolean), Cond.constant RX6 65 (65535)]
def wsX6_faultOf : List Cond := .code yX6_faultOf cX6_faultOf 2 (some .int) :: ((wsX6_faultOf_r1 ++ wsX6_faultOf_r2) ++ wsX60)
def wsX6_does_r1 : List Cond := [Cond.fieldLink RX6 29 "PhaseTonesModel" "read" "[I", Cond.fieldLink RX6 7 "PhaseTonesModel" "s" "[I", Cond.methodLink RX6 79 yX6_steps, Cond.instanceMethod yX6_steps, Cond.selects RX6 yX6_steps yX6_steps, Cond.initialized RX6, Cond.code yX6_steps cX6_steps 5 (some .int), Cond.constant RX6 65 (65535), Cond.methodLink RX6 61 yX6_isOne, Cond.static yX6_isOne, Cond.code yX6_isOne cX6_isOne 1 (some .boolean), Cond.methodLink RX6 40 yX6_in, Cond.static yX6_in, Cond.code yX6_in cX6_in 3 (some .boolean), Cond.methodLink RX6 36 yX6_w, Cond.static yX6_w, Cond.code yX6_w cX6_w 1 (some .int), Cond.methodLink RX6 83 yX6_tables, Cond.instanceMethod yX6_tables, Cond.selects RX6 yX6_tables yX6_tables, Cond.code yX6_tables cX6_tables 4 (some .int), Cond.methodLink RX6 86 yX6_volumes, Cond.instanceMethod yX6_volumes, Cond.selects RX6 yX6_volumes yX6_volumes]
def wsX6_does_r2 : List Cond := [Cond.code yX6_volumes cX6_volumes 4 (some .int), Cond.methodLink RX6 89 yX6_turns, Cond.instanceMethod yX6_turns, Cond.selects RX6 yX6_turns yX6_turns, Cond.code yX6_turns cX6_turns 4 (some .int), Cond.methodLink RX6 66 yX6_onWheels, Cond.instanceMethod yX6_onWheels, Cond.selects RX6 yX6_onWheels yX6_onWheels, Cond.code yX6_onWheels cX6_onWheels 3 (some .int), Cond.methodLink RX6 92 yX6_sweeps, Cond.instanceMethod yX6_sweeps, Cond.selects RX6 yX6_sweeps yX6_sweeps, Cond.code yX6_sweeps cX6_sweeps 6 (some .int), Cond.methodLink RX6 96 yX6_makesAll, Cond.instanceMethod yX6_makesAll, Cond.selects RX6 yX6_makesAll yX6_makesAll, Cond.code yX6_makesAll cX6_makesAll 4 (some .int), Cond.constant RX6 69 (999999), Cond.methodLink RX6 70 yX6_makes, Cond.instanceMethod yX6_makes, Cond.selects RX6 yX6_makes yX6_makes, Cond.code yX6_makes cX6_makes 4 (some .int), Cond.constant RX6 56 (1000003), Cond.methodLink RX6 52 yX6_mixture]
def wsX6_does_r3 : List Cond := [Cond.instanceMethod yX6_mixture, Cond.selects RX6 yX6_mixture yX6_mixture, Cond.code yX6_mixture cX6_mixture 3 (some .int), Cond.methodLink RX6 48 yX6_gives, Cond.instanceMethod yX6_gives, Cond.selects RX6 yX6_gives yX6_gives, Cond.code yX6_gives cX6_gives 3 (some .int), Cond.methodLink RX6 57 yX6_goesOn, Cond.instanceMethod yX6_goesOn, Cond.selects RX6 yX6_goesOn yX6_goesOn, Cond.code yX6_goesOn cX6_goesOn 4 none, Cond.constant RX6 51 (65536)]
def wsX6_does : List Cond := .code yX6_does cX6_does 4 (some .int) :: ((wsX6_does_r1 ++ (wsX6_does_r2 ++ wsX6_does_r3)) ++ wsX60)
def wsX6_run_r1 : List Cond := [Cond.fieldLink RX6 109 "PhaseTonesModel" "orders" "I", Cond.fieldLink RX6 102 "PhaseTonesModel" "length" "I", Cond.methodLink RX6 129 yX6_faultOf, Cond.instanceMethod yX6_faultOf, Cond.selects RX6 yX6_faultOf yX6_faultOf, Cond.initialized RX6, Cond.code yX6_faultOf cX6_faultOf 2 (some .int), Cond.fieldLink RX6 99 "PhaseTonesModel" "at" "I", Cond.methodLink RX6 126 yX6_readsOrder, Cond.instanceMethod yX6_readsOrder, Cond.selects RX6 yX6_readsOrder yX6_readsOrder, Cond.code yX6_readsOrder cX6_readsOrder 2 (some .boolean), Cond.fieldLink RX6 29 "PhaseTonesModel" "read" "[I", Cond.methodLink RX6 112 yX6_accepts, Cond.instanceMethod yX6_accepts, Cond.selects RX6 yX6_accepts yX6_accepts, Cond.code yX6_accepts cX6_accepts 3 (some .boolean), Cond.methodLink RX6 105 yX6_isSign, Cond.instanceMethod yX6_isSign, Cond.selects RX6 yX6_isSign yX6_isSign, Cond.code yX6_isSign cX6_isSign 3 (some .boolean), Cond.fieldLink RX6 32 "PhaseTonesModel" "pad" "[C", Cond.methodLink RX6 116 yX6_number, Cond.instanceMethod yX6_number]
def wsX6_run_r2 : List Cond := [Cond.selects RX6 yX6_number yX6_number, Cond.code yX6_number cX6_number 5 (some .boolean), Cond.methodLink RX6 119 yX6_digit, Cond.instanceMethod yX6_digit, Cond.selects RX6 yX6_digit yX6_digit, Cond.code yX6_digit cX6_digit 3 (some .boolean), Cond.methodLink RX6 122 yX6_readsRest, Cond.instanceMethod yX6_readsRest, Cond.selects RX6 yX6_readsRest yX6_readsRest, Cond.code yX6_readsRest cX6_readsRest 1 (some .boolean), Cond.constant RX6 65 (65535), Cond.methodLink RX6 73 yX6_hold, Cond.instanceMethod yX6_hold, Cond.selects RX6 yX6_hold yX6_hold, Cond.code yX6_hold cX6_hold 2 none, Cond.fieldLink RX6 13 "PhaseTonesModel" "spare" "[I", Cond.fieldLink RX6 7 "PhaseTonesModel" "s" "[I", Cond.methodLink RX6 132 yX6_does, Cond.instanceMethod yX6_does, Cond.selects RX6 yX6_does yX6_does, Cond.code yX6_does cX6_does 4 (some .int), Cond.methodLink RX6 79 yX6_steps, Cond.instanceMethod yX6_steps, Cond.selects RX6 yX6_steps yX6_steps]
def wsX6_run_r3 : List Cond := [Cond.code yX6_steps cX6_steps 5 (some .int), Cond.methodLink RX6 61 yX6_isOne, Cond.static yX6_isOne, Cond.code yX6_isOne cX6_isOne 1 (some .boolean), Cond.methodLink RX6 40 yX6_in, Cond.static yX6_in, Cond.code yX6_in cX6_in 3 (some .boolean), Cond.methodLink RX6 36 yX6_w, Cond.static yX6_w, Cond.code yX6_w cX6_w 1 (some .int), Cond.methodLink RX6 83 yX6_tables, Cond.instanceMethod yX6_tables, Cond.selects RX6 yX6_tables yX6_tables, Cond.code yX6_tables cX6_tables 4 (some .int), Cond.methodLink RX6 86 yX6_volumes, Cond.instanceMethod yX6_volumes, Cond.selects RX6 yX6_volumes yX6_volumes, Cond.code yX6_volumes cX6_volumes 4 (some .int), Cond.methodLink RX6 89 yX6_turns, Cond.instanceMethod yX6_turns, Cond.selects RX6 yX6_turns yX6_turns, Cond.code yX6_turns cX6_turns 4 (some .int), Cond.methodLink RX6 66 yX6_onWheels, Cond.instanceMethod yX6_onWheels]
def wsX6_run_r4 : List Cond := [Cond.selects RX6 yX6_onWheels yX6_onWheels, Cond.code yX6_onWheels cX6_onWheels 3 (some .int), Cond.methodLink RX6 92 yX6_sweeps, Cond.instanceMethod yX6_sweeps, Cond.selects RX6 yX6_sweeps yX6_sweeps, Cond.code yX6_sweeps cX6_sweeps 6 (some .int), Cond.methodLink RX6 96 yX6_makesAll, Cond.instanceMethod yX6_makesAll, Cond.selects RX6 yX6_makesAll yX6_makesAll, Cond.code yX6_makesAll cX6_makesAll 4 (some .int), Cond.constant RX6 69 (999999), Cond.methodLink RX6 70 yX6_makes, Cond.instanceMethod yX6_makes, Cond.selects RX6 yX6_makes yX6_makes, Cond.code yX6_makes cX6_makes 4 (some .int), Cond.constant RX6 56 (1000003), Cond.methodLink RX6 52 yX6_mixture, Cond.instanceMethod yX6_mixture, Cond.selects RX6 yX6_mixture yX6_mixture, Cond.code yX6_mixture cX6_mixture 3 (some .int), Cond.methodLink RX6 48 yX6_gives, Cond.instanceMethod yX6_gives, Cond.selects RX6 yX6_gives yX6_gives, Cond.code yX6_gives cX6_gives 3 (some .int)]
def wsX6_run_r5 : List Cond := [Cond.methodLink RX6 57 yX6_goesOn, Cond.instanceMethod yX6_goesOn, Cond.selects RX6 yX6_goesOn yX6_goesOn, Cond.code yX6_goesOn cX6_goesOn 4 none, Cond.constant RX6 51 (65536), Cond.methodLink RX6 76 yX6_recorded, Cond.instanceMethod yX6_recorded, Cond.selects RX6 yX6_recorded yX6_recorded, Cond.code yX6_recorded cX6_recorded 3 (some .int), Cond.fieldLink RX6 44 "PhaseTonesModel" "states" "I", Cond.fieldLink RX6 19 "PhaseTonesModel" "before" "[I"]
def wsX6_run : List Cond := .code yX6_run cX6_run 3 (some .int) :: ((wsX6_run_r1 ++ (wsX6_run_r2 ++ (wsX6_run_r3 ++ (wsX6_run_r4 ++ wsX6_run_r5)))) ++ wsX60)
def wsX6_image : List Cond := .code yX6_image cX6_image 1 (some .int) :: ([.constant RX6 135 (32768), .constant RX6 51 (65536)])
def wsX6_around : List Cond := .code yX6_around cX6_around 3 (some .int) :: ([.constant RX6 51 (65536)])
def wsX6_sweepsTake : List Cond := .code yX6_sweepsTake cX6_sweepsTake 5 (some .int) :: ([.fieldLink RX6 7 "PhaseTonesModel" "s" "[I", .methodLink RX6 36 yX6_w, .static yX6_w, .initialized RX6, .code yX6_w cX6_w 1 (some .int)] ++ wsX60)
def wsX6_wheel_r1 : List Cond := [Cond.fieldLink RX6 7 "PhaseTonesModel" "s" "[I", Cond.methodLink RX6 61 yX6_isOne, Cond.static yX6_isOne, Cond.initialized RX6, Cond.code yX6_isOne cX6_isOne 1 (some .boolean), Cond.methodLink RX6 40 yX6_in, Cond.static yX6_in, Cond.code yX6_in cX6_in 3 (some .boolean), Cond.methodLink RX6 36 yX6_w, Cond.static yX6_w, Cond.code yX6_w cX6_w 1 (some .int), Cond.methodLink RX6 48 yX6_gives, Cond.instanceMethod yX6_gives, Cond.selects RX6 yX6_gives yX6_gives, Cond.code yX6_gives cX6_gives 3 (some .int), Cond.methodLink RX6 136 yX6_image, Cond.static yX6_image, Cond.code yX6_image cX6_image 1 (some .int), Cond.constant RX6 135 (32768), Cond.constant RX6 51 (65536), Cond.methodLink RX6 139 yX6_around, Cond.static yX6_around, Cond.code yX6_around cX6_around 3 (some .int), Cond.methodLink RX6 142 yX6_sweepsTake]
def wsX6_wheel_r2 : List Cond := [Cond.instanceMethod yX6_sweepsTake, Cond.selects RX6 yX6_sweepsTake yX6_sweepsTake, Cond.code yX6_sweepsTake cX6_sweepsTake 5 (some .int)]
def wsX6_wheel : List Cond := .code yX6_wheel cX6_wheel 4 (some .int) :: ((wsX6_wheel_r1 ++ wsX6_wheel_r2) ++ wsX60)
def wsX6_valueOf : List Cond := .code yX6_valueOf cX6_valueOf 3 (some .int) :: ([.fieldLink RX6 7 "PhaseTonesModel" "s" "[I", .methodLink RX6 61 yX6_isOne, .static yX6_isOne, .initialized RX6, .code yX6_isOne cX6_isOne 1 (some .boolean), .methodLink RX6 40 yX6_in, .static yX6_in, .code yX6_in cX6_in 3 (some .boolean)] ++ wsX60)
def wsX6_sample : List Cond := .code yX6_sample cX6_sample 2 (some .int) :: ([.fieldLink RX6 7 "PhaseTonesModel" "s" "[I", .methodLink RX6 40 yX6_in, .static yX6_in, .initialized RX6, .code yX6_in cX6_in 3 (some .boolean)] ++ wsX60)
def wsX6_beat : List Cond := .code yX6_beat cX6_beat 4 (some .int) :: ([.fieldLink RX6 7 "PhaseTonesModel" "s" "[I", .methodLink RX6 61 yX6_isOne, .static yX6_isOne, .initialized RX6, .code yX6_isOne cX6_isOne 1 (some .boolean), .methodLink RX6 40 yX6_in, .static yX6_in, .code yX6_in cX6_in 3 (some .boolean), .methodLink RX6 36 yX6_w, .static yX6_w, .code yX6_w cX6_w 1 (some .int), .methodLink RX6 136 yX6_image, .static yX6_image, .code yX6_image cX6_image 1 (some .int), .constant RX6 135 (32768), .constant RX6 51 (65536)] ++ wsX60)
def wsX6_together : List Cond := .code yX6_together cX6_together 4 (some .int) :: ([.fieldLink RX6 7 "PhaseTonesModel" "s" "[I", .methodLink RX6 36 yX6_w, .static yX6_w, .initialized RX6, .code yX6_w cX6_w 1 (some .int), .methodLink RX6 139 yX6_around, .static yX6_around, .code yX6_around cX6_around 3 (some .int), .constant RX6 51 (65536)] ++ wsX60)
def wsX6_count_r1 : List Cond := [Cond.fieldLink RX6 7 "PhaseTonesModel" "s" "[I", Cond.fieldLink RX6 102 "PhaseTonesModel" "length" "I", Cond.fieldLink RX6 44 "PhaseTonesModel" "states" "I", Cond.methodLink RX6 66 yX6_onWheels, Cond.instanceMethod yX6_onWheels, Cond.selects RX6 yX6_onWheels yX6_onWheels, Cond.initialized RX6, Cond.code yX6_onWheels cX6_onWheels 3 (some .int), Cond.methodLink RX6 36 yX6_w, Cond.static yX6_w, Cond.code yX6_w cX6_w 1 (some .int), Cond.methodLink RX6 52 yX6_mixture, Cond.instanceMethod yX6_mixture, Cond.selects RX6 yX6_mixture yX6_mixture, Cond.code yX6_mixture cX6_mixture 3 (some .int), Cond.methodLink RX6 48 yX6_gives, Cond.instanceMethod yX6_gives, Cond.selects RX6 yX6_gives yX6_gives, Cond.code yX6_gives cX6_gives 3 (some .int), Cond.methodLink RX6 145 yX6_together, Cond.instanceMethod yX6_together, Cond.selects RX6 yX6_together yX6_together, Cond.code yX6_together cX6_together 4 (some .int), Cond.methodLink RX6 139 yX6_around]
def wsX6_count_r2 : List Cond := [Cond.static yX6_around, Cond.code yX6_around cX6_around 3 (some .int), Cond.constant RX6 51 (65536)]
def wsX6_count : List Cond := .code yX6_count cX6_count 2 (some .int) :: ((wsX6_count_r1 ++ wsX6_count_r2) ++ wsX60)
def wsX6_ifMade_r1 : List Cond := [Cond.fieldLink RX6 7 "PhaseTonesModel" "s" "[I", Cond.fieldLink RX6 16 "PhaseTonesModel" "trial" "[I", Cond.methodLink RX6 40 yX6_in, Cond.static yX6_in, Cond.initialized RX6, Cond.code yX6_in cX6_in 3 (some .boolean), Cond.methodLink RX6 148 yX6_keepTrial, Cond.instanceMethod yX6_keepTrial, Cond.selects RX6 yX6_keepTrial yX6_keepTrial, Cond.code yX6_keepTrial cX6_keepTrial 2 none, Cond.methodLink RX6 70 yX6_makes, Cond.instanceMethod yX6_makes, Cond.selects RX6 yX6_makes yX6_makes, Cond.code yX6_makes cX6_makes 4 (some .int), Cond.constant RX6 56 (1000003), Cond.methodLink RX6 52 yX6_mixture, Cond.instanceMethod yX6_mixture, Cond.selects RX6 yX6_mixture yX6_mixture, Cond.code yX6_mixture cX6_mixture 3 (some .int), Cond.methodLink RX6 36 yX6_w, Cond.static yX6_w, Cond.code yX6_w cX6_w 1 (some .int), Cond.methodLink RX6 48 yX6_gives, Cond.instanceMethod yX6_gives]
def wsX6_ifMade_r2 : List Cond := [Cond.selects RX6 yX6_gives yX6_gives, Cond.code yX6_gives cX6_gives 3 (some .int), Cond.methodLink RX6 57 yX6_goesOn, Cond.instanceMethod yX6_goesOn, Cond.selects RX6 yX6_goesOn yX6_goesOn, Cond.code yX6_goesOn cX6_goesOn 4 none, Cond.constant RX6 51 (65536), Cond.methodLink RX6 151 yX6_putBack, Cond.instanceMethod yX6_putBack, Cond.selects RX6 yX6_putBack yX6_putBack, Cond.code yX6_putBack cX6_putBack 2 none]
def wsX6_ifMade : List Cond := .code yX6_ifMade cX6_ifMade 7 (some .int) :: ((wsX6_ifMade_r1 ++ wsX6_ifMade_r2) ++ wsX60)
def wsX6_untilClip_r1 : List Cond := [Cond.fieldLink RX6 7 "PhaseTonesModel" "s" "[I", Cond.fieldLink RX6 16 "PhaseTonesModel" "trial" "[I", Cond.methodLink RX6 148 yX6_keepTrial, Cond.instanceMethod yX6_keepTrial, Cond.selects RX6 yX6_keepTrial yX6_keepTrial, Cond.initialized RX6, Cond.code yX6_keepTrial cX6_keepTrial 2 none, Cond.methodLink RX6 70 yX6_makes, Cond.instanceMethod yX6_makes, Cond.selects RX6 yX6_makes yX6_makes, Cond.code yX6_makes cX6_makes 4 (some .int), Cond.constant RX6 56 (1000003), Cond.methodLink RX6 52 yX6_mixture, Cond.instanceMethod yX6_mixture, Cond.selects RX6 yX6_mixture yX6_mixture, Cond.code yX6_mixture cX6_mixture 3 (some .int), Cond.methodLink RX6 36 yX6_w, Cond.static yX6_w, Cond.code yX6_w cX6_w 1 (some .int), Cond.methodLink RX6 48 yX6_gives, Cond.instanceMethod yX6_gives, Cond.selects RX6 yX6_gives yX6_gives, Cond.code yX6_gives cX6_gives 3 (some .int), Cond.methodLink RX6 57 yX6_goesOn]
def wsX6_untilClip_r2 : List Cond := [Cond.instanceMethod yX6_goesOn, Cond.selects RX6 yX6_goesOn yX6_goesOn, Cond.code yX6_goesOn cX6_goesOn 4 none, Cond.constant RX6 51 (65536), Cond.methodLink RX6 151 yX6_putBack, Cond.instanceMethod yX6_putBack, Cond.selects RX6 yX6_putBack yX6_putBack, Cond.code yX6_putBack cX6_putBack 2 none]
def wsX6_untilClip : List Cond := .code yX6_untilClip cX6_untilClip 4 (some .int) :: ((wsX6_untilClip_r1 ++ wsX6_untilClip_r2) ++ wsX60)
def wsX6_bestStep : List Cond := .code yX6_bestStep cX6_bestStep 7 (some .int) :: ([.constant RX6 51 (65536), .constant RX6 154 (1000000), .constant RX6 135 (32768), .methodLink RX6 40 yX6_in, .static yX6_in, .initialized RX6, .code yX6_in cX6_in 3 (some .boolean)])
def wsX6_untilRound_r1 : List Cond := [Cond.constant RX6 155 (70000), Cond.fieldLink RX6 7 "PhaseTonesModel" "s" "[I", Cond.methodLink RX6 61 yX6_isOne, Cond.static yX6_isOne, Cond.initialized RX6, Cond.code yX6_isOne cX6_isOne 1 (some .boolean), Cond.methodLink RX6 40 yX6_in, Cond.static yX6_in, Cond.code yX6_in cX6_in 3 (some .boolean), Cond.methodLink RX6 148 yX6_keepTrial, Cond.instanceMethod yX6_keepTrial, Cond.selects RX6 yX6_keepTrial yX6_keepTrial, Cond.code yX6_keepTrial cX6_keepTrial 2 none, Cond.fieldLink RX6 16 "PhaseTonesModel" "trial" "[I", Cond.methodLink RX6 36 yX6_w, Cond.static yX6_w, Cond.code yX6_w cX6_w 1 (some .int), Cond.methodLink RX6 57 yX6_goesOn, Cond.instanceMethod yX6_goesOn, Cond.selects RX6 yX6_goesOn yX6_goesOn, Cond.code yX6_goesOn cX6_goesOn 4 none, Cond.constant RX6 51 (65536), Cond.methodLink RX6 151 yX6_putBack, Cond.instanceMethod yX6_putBack]
def wsX6_untilRound_r2 : List Cond := [Cond.selects RX6 yX6_putBack yX6_putBack, Cond.code yX6_putBack cX6_putBack 2 none]
def wsX6_untilRound : List Cond := .code yX6_untilRound cX6_untilRound 5 (some .int) :: ((wsX6_untilRound_r1 ++ wsX6_untilRound_r2) ++ wsX60)
def wsX6_put : List Cond := .code yX6_put cX6_put 8 (some .int) :: ([.constantLong RX6 156 (255), .constantLong RX6 158 (33), .constantLong RX6 160 (126), .fieldLink RX6 102 "PhaseTonesModel" "length" "I", .fieldLink RX6 32 "PhaseTonesModel" "pad" "[C"] ++ wsX60)
def wsX6_wipe : List Cond := .code yX6_wipe cX6_wipe 2 (some .int) :: ([.fieldLink RX6 102 "PhaseTonesModel" "length" "I"] ++ wsX60)
def wsX6_fault_r1 : List Cond := [Cond.methodLink RX6 129 yX6_faultOf, Cond.instanceMethod yX6_faultOf, Cond.selects RX6 yX6_faultOf yX6_faultOf, Cond.initialized RX6, Cond.code yX6_faultOf cX6_faultOf 2 (some .int), Cond.fieldLink RX6 99 "PhaseTonesModel" "at" "I", Cond.fieldLink RX6 109 "PhaseTonesModel" "orders" "I", Cond.fieldLink RX6 102 "PhaseTonesModel" "length" "I", Cond.methodLink RX6 126 yX6_readsOrder, Cond.instanceMethod yX6_readsOrder, Cond.selects RX6 yX6_readsOrder yX6_readsOrder, Cond.code yX6_readsOrder cX6_readsOrder 2 (some .boolean), Cond.fieldLink RX6 29 "PhaseTonesModel" "read" "[I", Cond.methodLink RX6 112 yX6_accepts, Cond.instanceMethod yX6_accepts, Cond.selects RX6 yX6_accepts yX6_accepts, Cond.code yX6_accepts cX6_accepts 3 (some .boolean), Cond.methodLink RX6 105 yX6_isSign, Cond.instanceMethod yX6_isSign, Cond.selects RX6 yX6_isSign yX6_isSign, Cond.code yX6_isSign cX6_isSign 3 (some .boolean), Cond.fieldLink RX6 32 "PhaseTonesModel" "pad" "[C", Cond.methodLink RX6 116 yX6_number, Cond.instanceMethod yX6_number]
def wsX6_fault_r2 : List Cond := [Cond.selects RX6 yX6_number yX6_number, Cond.code yX6_number cX6_number 5 (some .boolean), Cond.methodLink RX6 119 yX6_digit, Cond.instanceMethod yX6_digit, Cond.selects RX6 yX6_digit yX6_digit, Cond.code yX6_digit cX6_digit 3 (some .boolean), Cond.methodLink RX6 122 yX6_readsRest, Cond.instanceMethod yX6_readsRest, Cond.selects RX6 yX6_readsRest yX6_readsRest, Cond.code yX6_readsRest cX6_readsRest 1 (some .boolean), Cond.constant RX6 65 (65535)]
def wsX6_fault : List Cond := .code yX6_fault cX6_fault 2 (some .int) :: ((wsX6_fault_r1 ++ wsX6_fault_r2) ++ wsX60)
def wsX6_undo : List Cond := .code yX6_undo cX6_undo 2 (some .int) :: ([.fieldLink RX6 44 "PhaseTonesModel" "states" "I", .fieldLink RX6 7 "PhaseTonesModel" "s" "[I", .fieldLink RX6 19 "PhaseTonesModel" "before" "[I"] ++ wsX60)
def wsX6_save : List Cond := .code yX6_save cX6_save 3 (some .int) :: ([.fieldLink RX6 22 "PhaseTonesModel" "saved" "[I", .fieldLink RX6 7 "PhaseTonesModel" "s" "[I", .fieldLink RX6 25 "PhaseTonesModel" "isSaved" "[Z", .methodLink RX6 40 yX6_in, .static yX6_in, .initialized RX6, .code yX6_in cX6_in 3 (some .boolean)] ++ wsX60)
def wsX6_restore : List Cond := .code yX6_restore cX6_restore 3 (some .int) :: ([.fieldLink RX6 25 "PhaseTonesModel" "isSaved" "[Z", .fieldLink RX6 7 "PhaseTonesModel" "s" "[I", .fieldLink RX6 22 "PhaseTonesModel" "saved" "[I", .methodLink RX6 40 yX6_in, .static yX6_in, .initialized RX6, .code yX6_in cX6_in 3 (some .boolean), .methodLink RX6 73 yX6_hold, .instanceMethod yX6_hold, .selects RX6 yX6_hold yX6_hold, .code yX6_hold cX6_hold 2 none, .fieldLink RX6 13 "PhaseTonesModel" "spare" "[I", .methodLink RX6 76 yX6_recorded, .instanceMethod yX6_recorded, .selects RX6 yX6_recorded yX6_recorded, .code yX6_recorded cX6_recorded 3 (some .int), .fieldLink RX6 44 "PhaseTonesModel" "states" "I", .fieldLink RX6 19 "PhaseTonesModel" "before" "[I"] ++ wsX60)
def wsJ9_abs_0f7a4 : List Cond := .code yJ9_abs_0f7a4 cJ9_abs_0f7a4 1 (some .int) :: ([])
def wsJ9_max_7cf53 : List Cond := .code yJ9_max_7cf53 cJ9_max_7cf53 2 (some .int) :: ([])
def wsJ9_min_7cf53 : List Cond := .code yJ9_min_7cf53 cJ9_min_7cf53 2 (some .int) :: ([])
set_option maxRecDepth 20000 in
theorem ggX0_init_X3_init : GoodIn wsX0_init wsX3_init := goodIn_r _ [10, 11, 2, 3, 12, 13, 14, 15, 16, 17, 18, 19, 20, 21, 22, 23, 24, 25, 26, 27, 31, 32, 33, 34, 35, 36, 37, 38, 39, 40, 41, 42, 43, 44, 45, 46, 47, 48] (by decide +kernel) (by decide +kernel)
set_option maxRecDepth 20000 in
theorem gX0_init_X3_init : GoodIn wsX0_init (wsX3_init) := ggX0_init_X3_init
theorem dX0_init_0 : decode cX0_init 0 = .ok (.aload_n 0, 1) := by decide +kernel
theorem dX0_init_1 : decode cX0_init 1 = .ok (.invokespecial 3, 3) := by decide +kernel
theorem dX0_init_4 : decode cX0_init 4 = .ok (.aload_n 0, 1) := by decide +kernel
theorem dX0_init_5 : decode cX0_init 5 = .ok (.bipush 6, 2) := by decide +kernel
theorem dX0_init_7 : decode cX0_init 7 = .ok (.anewarray 9, 3) := by decide +kernel
theorem dX0_init_10 : decode cX0_init 10 = .ok (.putfield 11, 3) := by decide +kernel
theorem dX0_init_13 : decode cX0_init 13 = .ok (.iconst 0, 1) := by decide +kernel
theorem dX0_init_14 : decode cX0_init 14 = .ok (.istore_n 1, 1) := by decide +kernel
theorem dX0_init_15 : decode cX0_init 15 = .ok (.iload_n 1, 1) := by decide +kernel
theorem dX0_init_16 : decode cX0_init 16 = .ok (.bipush 6, 2) := by decide +kernel
theorem dX0_init_18 : decode cX0_init 18 = .ok (.if_icmp .ge 22, 3) := by decide +kernel
theorem dX0_init_21 : decode cX0_init 21 = .ok (.aload_n 0, 1) := by decide +kernel
theorem dX0_init_22 : decode cX0_init 22 = .ok (.getfield 11, 3) := by decide +kernel
theorem dX0_init_25 : decode cX0_init 25 = .ok (.iload_n 1, 1) := by decide +kernel
theorem dX0_init_26 : decode cX0_init 26 = .ok (.new 9, 3) := by decide +kernel
theorem dX0_init_29 : decode cX0_init 29 = .ok (.dup, 1) := by decide +kernel
theorem dX0_init_30 : decode cX0_init 30 = .ok (.invokespecial 17, 3) := by decide +kernel
theorem dX0_init_33 : decode cX0_init 33 = .ok (.aastore, 1) := by decide +kernel
theorem dX0_init_34 : decode cX0_init 34 = .ok (.iinc 1 1, 3) := by decide +kernel
theorem dX0_init_37 : decode cX0_init 37 = .ok (.goto (-22), 3) := by decide +kernel
theorem dX0_init_40 : decode cX0_init 40 = .ok (.return_, 1) := by decide +kernel
set_option maxRecDepth 20000 in
theorem ggX0_keep_J9_floorMod_7cf53 : GoodIn wsX0_keep wsJ9_floorMod_7cf53 := goodIn_r _ [11] (by decide +kernel) (by decide +kernel)
set_option maxRecDepth 20000 in
theorem gX0_keep_J9_floorMod_7cf53 : GoodIn wsX0_keep (va_wsS RX0 22 yJ9_floorMod_7cf53 wsJ9_floorMod_7cf53) := goodIn_app (goodIn_of _ (by decide +kernel)) ggX0_keep_J9_floorMod_7cf53
set_option maxRecDepth 20000 in
theorem ggX0_keep_X3_takeOver : GoodIn wsX0_keep wsX3_takeOver := goodIn_r _ [16, 17, 18, 19, 20, 21, 22, 23, 24, 25, 26, 27, 28, 29, 30, 31, 32, 33, 34, 35, 36, 37, 38, 39, 40, 41, 42, 43, 44, 48, 49, 50, 51, 52, 53, 54, 55, 56, 57, 58, 59, 60, 61, 62, 63, 64, 65] (by decide +kernel) (by decide +kernel)
set_option maxRecDepth 20000 in
theorem gX0_keep_X3_takeOver : GoodIn wsX0_keep (wsV RX0 28 RX3 yX3_takeOver wsX3_takeOver) := goodIn_app (goodIn_of _ (by decide +kernel)) ggX0_keep_X3_takeOver
theorem dX0_keep_0 : decode cX0_keep 0 = .ok (.aload_n 0, 1) := by decide +kernel
theorem dX0_keep_1 : decode cX0_keep 1 = .ok (.getfield 11, 3) := by decide +kernel
theorem dX0_keep_4 : decode cX0_keep 4 = .ok (.aload_n 0, 1) := by decide +kernel
theorem dX0_keep_5 : decode cX0_keep 5 = .ok (.getfield 18, 3) := by decide +kernel
theorem dX0_keep_8 : decode cX0_keep 8 = .ok (.bipush 6, 2) := by decide +kernel
theorem dX0_keep_10 : decode cX0_keep 10 = .ok (.invokestatic 22, 3) := by decide +kernel
theorem dX0_keep_13 : decode cX0_keep 13 = .ok (.aaload, 1) := by decide +kernel
theorem dX0_keep_14 : decode cX0_keep 14 = .ok (.aload_n 1, 1) := by decide +kernel
theorem dX0_keep_15 : decode cX0_keep 15 = .ok (.invokevirtual 28, 3) := by decide +kernel
theorem dX0_keep_18 : decode cX0_keep 18 = .ok (.aload_n 0, 1) := by decide +kernel
theorem dX0_keep_19 : decode cX0_keep 19 = .ok (.dup, 1) := by decide +kernel
theorem dX0_keep_20 : decode cX0_keep 20 = .ok (.getfield 18, 3) := by decide +kernel
theorem dX0_keep_23 : decode cX0_keep 23 = .ok (.iconst 1, 1) := by decide +kernel
theorem dX0_keep_24 : decode cX0_keep 24 = .ok (.iadd, 1) := by decide +kernel
theorem dX0_keep_25 : decode cX0_keep 25 = .ok (.putfield 18, 3) := by decide +kernel
theorem dX0_keep_28 : decode cX0_keep 28 = .ok (.aload_n 0, 1) := by decide +kernel
theorem dX0_keep_29 : decode cX0_keep 29 = .ok (.aload_n 0, 1) := by decide +kernel
theorem dX0_keep_30 : decode cX0_keep 30 = .ok (.getfield 32, 3) := by decide +kernel
theorem dX0_keep_33 : decode cX0_keep 33 = .ok (.iconst 1, 1) := by decide +kernel
theorem dX0_keep_34 : decode cX0_keep 34 = .ok (.iadd, 1) := by decide +kernel
theorem dX0_keep_35 : decode cX0_keep 35 = .ok (.bipush 6, 2) := by decide +kernel
theorem dX0_keep_37 : decode cX0_keep 37 = .ok (.invokestatic 35, 3) := by decide +kernel
theorem dX0_keep_40 : decode cX0_keep 40 = .ok (.putfield 32, 3) := by decide +kernel
theorem dX0_keep_43 : decode cX0_keep 43 = .ok (.return_, 1) := by decide +kernel
set_option maxRecDepth 20000 in
theorem ggX0_bringBack_J9_floorMod_7cf53 : GoodIn wsX0_bringBack wsJ9_floorMod_7cf53 := goodIn_r _ [11] (by decide +kernel) (by decide +kernel)
set_option maxRecDepth 20000 in
theorem gX0_bringBack_J9_floorMod_7cf53 : GoodIn wsX0_bringBack (va_wsS RX0 22 yJ9_floorMod_7cf53 wsJ9_floorMod_7cf53) := goodIn_app (goodIn_of _ (by decide +kernel)) ggX0_bringBack_J9_floorMod_7cf53
set_option maxRecDepth 20000 in
theorem ggX0_bringBack_X3_takeOver : GoodIn wsX0_bringBack wsX3_takeOver := goodIn_r _ [16, 17, 18, 19, 20, 21, 22, 23, 24, 25, 26, 27, 28, 29, 30, 31, 32, 33, 34, 35, 36, 37, 38, 39, 40, 41, 42, 43, 44, 48, 49, 50, 51, 52, 53, 54, 55, 56, 57, 58, 59, 60, 61, 62, 63, 64, 65] (by decide +kernel) (by decide +kernel)
set_option maxRecDepth 20000 in
theorem gX0_bringBack_X3_takeOver : GoodIn wsX0_bringBack (wsV RX0 28 RX3 yX3_takeOver wsX3_takeOver) := goodIn_app (goodIn_of _ (by decide +kernel)) ggX0_bringBack_X3_takeOver
theorem dX0_bringBack_0 : decode cX0_bringBack 0 = .ok (.aload_n 0, 1) := by decide +kernel
theorem dX0_bringBack_1 : decode cX0_bringBack 1 = .ok (.dup, 1) := by decide +kernel
theorem dX0_bringBack_2 : decode cX0_bringBack 2 = .ok (.getfield 18, 3) := by decide +kernel
theorem dX0_bringBack_5 : decode cX0_bringBack 5 = .ok (.iconst 1, 1) := by decide +kernel
theorem dX0_bringBack_6 : decode cX0_bringBack 6 = .ok (.isub, 1) := by decide +kernel
theorem dX0_bringBack_7 : decode cX0_bringBack 7 = .ok (.putfield 18, 3) := by decide +kernel
theorem dX0_bringBack_10 : decode cX0_bringBack 10 = .ok (.aload_n 0, 1) := by decide +kernel
theorem dX0_bringBack_11 : decode cX0_bringBack 11 = .ok (.aload_n 0, 1) := by decide +kernel
theorem dX0_bringBack_12 : decode cX0_bringBack 12 = .ok (.getfield 32, 3) := by decide +kernel
theorem dX0_bringBack_15 : decode cX0_bringBack 15 = .ok (.iconst 1, 1) := by decide +kernel
theorem dX0_bringBack_16 : decode cX0_bringBack 16 = .ok (.isub, 1) := by decide +kernel
theorem dX0_bringBack_17 : decode cX0_bringBack 17 = .ok (.iconst 0, 1) := by decide +kernel
theorem dX0_bringBack_18 : decode cX0_bringBack 18 = .ok (.invokestatic 38, 3) := by decide +kernel
theorem dX0_bringBack_21 : decode cX0_bringBack 21 = .ok (.putfield 32, 3) := by decide +kernel
theorem dX0_bringBack_24 : decode cX0_bringBack 24 = .ok (.aload_n 1, 1) := by decide +kernel
theorem dX0_bringBack_25 : decode cX0_bringBack 25 = .ok (.aload_n 0, 1) := by decide +kernel
theorem dX0_bringBack_26 : decode cX0_bringBack 26 = .ok (.getfield 11, 3) := by decide +kernel
theorem dX0_bringBack_29 : decode cX0_bringBack 29 = .ok (.aload_n 0, 1) := by decide +kernel
theorem dX0_bringBack_30 : decode cX0_bringBack 30 = .ok (.getfield 18, 3) := by decide +kernel
theorem dX0_bringBack_33 : decode cX0_bringBack 33 = .ok (.bipush 6, 2) := by decide +kernel
theorem dX0_bringBack_35 : decode cX0_bringBack 35 = .ok (.invokestatic 22, 3) := by decide +kernel
theorem dX0_bringBack_38 : decode cX0_bringBack 38 = .ok (.aaload, 1) := by decide +kernel
theorem dX0_bringBack_39 : decode cX0_bringBack 39 = .ok (.invokevirtual 28, 3) := by decide +kernel
theorem dX0_bringBack_42 : decode cX0_bringBack 42 = .ok (.return_, 1) := by decide +kernel
theorem dX1_init_0 : decode cX1_init 0 = .ok (.aload_n 0, 1) := by decide +kernel
theorem dX1_init_1 : decode cX1_init 1 = .ok (.invokespecial 3, 3) := by decide +kernel
theorem dX1_init_4 : decode cX1_init 4 = .ok (.aload_n 0, 1) := by decide +kernel
theorem dX1_init_5 : decode cX1_init 5 = .ok (.bipush 60, 2) := by decide +kernel
theorem dX1_init_7 : decode cX1_init 7 = .ok (.newarray .char, 2) := by decide +kernel
theorem dX1_init_9 : decode cX1_init 9 = .ok (.putfield 9, 3) := by decide +kernel
theorem dX1_init_12 : decode cX1_init 12 = .ok (.return_, 1) := by decide +kernel
theorem dX1_append_0 : decode cX1_append 0 = .ok (.aload_n 0, 1) := by decide +kernel
theorem dX1_append_1 : decode cX1_append 1 = .ok (.getfield 15, 3) := by decide +kernel
theorem dX1_append_4 : decode cX1_append 4 = .ok (.ifCond .lt 32, 3) := by decide +kernel
theorem dX1_append_7 : decode cX1_append 7 = .ok (.aload_n 0, 1) := by decide +kernel
theorem dX1_append_8 : decode cX1_append 8 = .ok (.getfield 15, 3) := by decide +kernel
theorem dX1_append_11 : decode cX1_append 11 = .ok (.bipush 60, 2) := by decide +kernel
theorem dX1_append_13 : decode cX1_append 13 = .ok (.if_icmp .ge 23, 3) := by decide +kernel
theorem dX1_append_16 : decode cX1_append 16 = .ok (.aload_n 0, 1) := by decide +kernel
theorem dX1_append_17 : decode cX1_append 17 = .ok (.getfield 9, 3) := by decide +kernel
theorem dX1_append_20 : decode cX1_append 20 = .ok (.aload_n 0, 1) := by decide +kernel
theorem dX1_append_21 : decode cX1_append 21 = .ok (.getfield 15, 3) := by decide +kernel
theorem dX1_append_24 : decode cX1_append 24 = .ok (.iload_n 1, 1) := by decide +kernel
theorem dX1_append_25 : decode cX1_append 25 = .ok (.castore, 1) := by decide +kernel
theorem dX1_append_26 : decode cX1_append 26 = .ok (.aload_n 0, 1) := by decide +kernel
theorem dX1_append_27 : decode cX1_append 27 = .ok (.dup, 1) := by decide +kernel
theorem dX1_append_28 : decode cX1_append 28 = .ok (.getfield 15, 3) := by decide +kernel
theorem dX1_append_31 : decode cX1_append 31 = .ok (.iconst 1, 1) := by decide +kernel
theorem dX1_append_32 : decode cX1_append 32 = .ok (.iadd, 1) := by decide +kernel
theorem dX1_append_33 : decode cX1_append 33 = .ok (.putfield 15, 3) := by decide +kernel
theorem dX1_append_36 : decode cX1_append 36 = .ok (.return_, 1) := by decide +kernel
set_option maxRecDepth 20000 in
theorem ggX1_findFault_X1_readOrder : GoodIn wsX1_findFault wsX1_readOrder := goodIn_r _ [7, 8, 9, 10, 1, 11, 12, 13, 6, 14, 15, 16, 17, 18, 2, 19, 20, 21, 22, 23, 24, 25, 26, 27, 28, 29, 30, 31, 32, 33, 34, 35, 36, 37, 38, 39, 40, 41, 42, 43, 44, 45, 46, 47] (by decide +kernel) (by decide +kernel)
set_option maxRecDepth 20000 in
theorem gX1_findFault_X1_readOrder : GoodIn wsX1_findFault (wsV RX1 22 RX1 yX1_readOrder wsX1_readOrder) := goodIn_app (goodIn_of _ (by decide +kernel)) ggX1_findFault_X1_readOrder
set_option maxRecDepth 20000 in
theorem ggX1_findFault_X1_pass : GoodIn wsX1_findFault wsX1_pass := goodIn_r _ [14, 1, 15, 16, 17, 6, 18, 2, 19, 41, 42, 43, 44, 45, 46, 47] (by decide +kernel) (by decide +kernel)
set_option maxRecDepth 20000 in
theorem gX1_findFault_X1_pass : GoodIn wsX1_findFault (wsV RX1 26 RX1 yX1_pass wsX1_pass) := goodIn_app (goodIn_of _ (by decide +kernel)) ggX1_findFault_X1_pass
theorem dX1_findFault_0 : decode cX1_findFault 0 = .ok (.aload_n 0, 1) := by decide +kernel
theorem dX1_findFault_1 : decode cX1_findFault 1 = .ok (.iconst 0, 1) := by decide +kernel
theorem dX1_findFault_2 : decode cX1_findFault 2 = .ok (.putfield 19, 3) := by decide +kernel
theorem dX1_findFault_5 : decode cX1_findFault 5 = .ok (.iconst 0, 1) := by decide +kernel
theorem dX1_findFault_6 : decode cX1_findFault 6 = .ok (.istore_n 1, 1) := by decide +kernel
theorem dX1_findFault_7 : decode cX1_findFault 7 = .ok (.iload_n 1, 1) := by decide +kernel
theorem dX1_findFault_8 : decode cX1_findFault 8 = .ok (.bipush 60, 2) := by decide +kernel
theorem dX1_findFault_10 : decode cX1_findFault 10 = .ok (.if_icmp .ge 44, 3) := by decide +kernel
theorem dX1_findFault_13 : decode cX1_findFault 13 = .ok (.aload_n 0, 1) := by decide +kernel
theorem dX1_findFault_14 : decode cX1_findFault 14 = .ok (.invokevirtual 22, 3) := by decide +kernel
theorem dX1_findFault_17 : decode cX1_findFault 17 = .ok (.ifCond .eq 37, 3) := by decide +kernel
theorem dX1_findFault_20 : decode cX1_findFault 20 = .ok (.aload_n 0, 1) := by decide +kernel
theorem dX1_findFault_21 : decode cX1_findFault 21 = .ok (.getfield 19, 3) := by decide +kernel
theorem dX1_findFault_24 : decode cX1_findFault 24 = .ok (.aload_n 0, 1) := by decide +kernel
theorem dX1_findFault_25 : decode cX1_findFault 25 = .ok (.getfield 15, 3) := by decide +kernel
theorem dX1_findFault_28 : decode cX1_findFault 28 = .ok (.if_icmp .ne 6, 3) := by decide +kernel
theorem dX1_findFault_31 : decode cX1_findFault 31 = .ok (.bipush (-6), 2) := by decide +kernel
theorem dX1_findFault_33 : decode cX1_findFault 33 = .ok (.ireturn, 1) := by decide +kernel
theorem dX1_findFault_34 : decode cX1_findFault 34 = .ok (.aload_n 0, 1) := by decide +kernel
theorem dX1_findFault_35 : decode cX1_findFault 35 = .ok (.bipush 59, 2) := by decide +kernel
theorem dX1_findFault_37 : decode cX1_findFault 37 = .ok (.invokevirtual 26, 3) := by decide +kernel
theorem dX1_findFault_40 : decode cX1_findFault 40 = .ok (.ifCond .ne 8, 3) := by decide +kernel
theorem dX1_findFault_43 : decode cX1_findFault 43 = .ok (.aload_n 0, 1) := by decide +kernel
theorem dX1_findFault_44 : decode cX1_findFault 44 = .ok (.getfield 19, 3) := by decide +kernel
theorem dX1_findFault_47 : decode cX1_findFault 47 = .ok (.ireturn, 1) := by decide +kernel
theorem dX1_findFault_48 : decode cX1_findFault 48 = .ok (.iinc 1 1, 3) := by decide +kernel
theorem dX1_findFault_51 : decode cX1_findFault 51 = .ok (.goto (-44), 3) := by decide +kernel
theorem dX1_findFault_54 : decode cX1_findFault 54 = .ok (.aload_n 0, 1) := by decide +kernel
theorem dX1_findFault_55 : decode cX1_findFault 55 = .ok (.getfield 19, 3) := by decide +kernel
theorem dX1_findFault_58 : decode cX1_findFault 58 = .ok (.ireturn, 1) := by decide +kernel
set_option maxRecDepth 20000 in
theorem ggX1_readOrder_X1_pass : GoodIn wsX1_readOrder wsX1_pass := goodIn_r _ [9, 4, 10, 11, 12, 8, 13, 14, 15, 37, 38, 39, 40, 41, 42, 43] (by decide +kernel) (by decide +kernel)
set_option maxRecDepth 20000 in
theorem gX1_readOrder_X1_pass : GoodIn wsX1_readOrder (wsV RX1 26 RX1 yX1_pass wsX1_pass) := goodIn_app (goodIn_of _ (by decide +kernel)) ggX1_readOrder_X1_pass
set_option maxRecDepth 20000 in
theorem ggX1_readOrder_X1_readSamples : GoodIn wsX1_readOrder wsX1_readSamples := goodIn_r _ [19, 20, 21, 22, 23, 8, 24, 4, 14, 25, 26, 27, 28, 10, 11, 12, 13, 15, 29, 30, 31, 37, 38, 39, 40, 41, 42, 43] (by decide +kernel) (by decide +kernel)
set_option maxRecDepth 20000 in
theorem gX1_readOrder_X1_readSamples : GoodIn wsX1_readOrder (wsV RX1 33 RX1 yX1_readSamples wsX1_readSamples) := goodIn_app (goodIn_of _ (by decide +kernel)) ggX1_readOrder_X1_readSamples
set_option maxRecDepth 20000 in
theorem ggX1_readOrder_X1_readNumber : GoodIn wsX1_readOrder wsX1_readNumber := goodIn_r _ [24, 4, 14, 25, 26, 27, 8, 28, 10, 11, 12, 13, 15, 29, 30, 31, 37, 38, 39, 40, 41, 42, 43] (by decide +kernel) (by decide +kernel)
set_option maxRecDepth 20000 in
theorem gX1_readOrder_X1_readNumber : GoodIn wsX1_readOrder (wsV RX1 36 RX1 yX1_readNumber wsX1_readNumber) := goodIn_app (goodIn_of _ (by decide +kernel)) ggX1_readOrder_X1_readNumber
set_option maxRecDepth 20000 in
theorem ggX1_readOrder_X1_signHere : GoodIn wsX1_readOrder wsX1_signHere := goodIn_r _ [13, 4, 14, 15, 37, 38, 39, 40, 41, 42, 43] (by decide +kernel) (by decide +kernel)
set_option maxRecDepth 20000 in
theorem gX1_readOrder_X1_signHere : GoodIn wsX1_readOrder (wsV RX1 43 RX1 yX1_signHere wsX1_signHere) := goodIn_app (goodIn_of _ (by decide +kernel)) ggX1_readOrder_X1_signHere
set_option maxRecDepth 20000 in
theorem ggX1_readOrder_X1_readBehindSign : GoodIn wsX1_readOrder wsX1_readBehindSign := goodIn_r _ [35, 4, 36, 21, 22, 23, 8, 24, 14, 25, 26, 27, 28, 10, 11, 12, 13, 15, 29, 30, 31, 37, 38, 39, 40, 41, 42, 43] (by decide +kernel) (by decide +kernel)
set_option maxRecDepth 20000 in
theorem gX1_readOrder_X1_readBehindSign : GoodIn wsX1_readOrder (wsV RX1 48 RX1 yX1_readBehindSign wsX1_readBehindSign) := goodIn_app (goodIn_of _ (by decide +kernel)) ggX1_readOrder_X1_readBehindSign
theorem dX1_readOrder_0 : decode cX1_readOrder 0 = .ok (.aload_n 0, 1) := by decide +kernel
theorem dX1_readOrder_1 : decode cX1_readOrder 1 = .ok (.bipush 46, 2) := by decide +kernel
theorem dX1_readOrder_3 : decode cX1_readOrder 3 = .ok (.invokevirtual 26, 3) := by decide +kernel
theorem dX1_readOrder_6 : decode cX1_readOrder 6 = .ok (.ifCond .eq 14, 3) := by decide +kernel
theorem dX1_readOrder_9 : decode cX1_readOrder 9 = .ok (.aload_n 0, 1) := by decide +kernel
theorem dX1_readOrder_10 : decode cX1_readOrder 10 = .ok (.bipush 46, 2) := by decide +kernel
theorem dX1_readOrder_12 : decode cX1_readOrder 12 = .ok (.putfield 30, 3) := by decide +kernel
theorem dX1_readOrder_15 : decode cX1_readOrder 15 = .ok (.aload_n 0, 1) := by decide +kernel
theorem dX1_readOrder_16 : decode cX1_readOrder 16 = .ok (.invokevirtual 33, 3) := by decide +kernel
theorem dX1_readOrder_19 : decode cX1_readOrder 19 = .ok (.ireturn, 1) := by decide +kernel
theorem dX1_readOrder_20 : decode cX1_readOrder 20 = .ok (.aload_n 0, 1) := by decide +kernel
theorem dX1_readOrder_21 : decode cX1_readOrder 21 = .ok (.aload_n 0, 1) := by decide +kernel
theorem dX1_readOrder_22 : decode cX1_readOrder 22 = .ok (.iconst 0, 1) := by decide +kernel
theorem dX1_readOrder_23 : decode cX1_readOrder 23 = .ok (.iconst 3, 1) := by decide +kernel
theorem dX1_readOrder_24 : decode cX1_readOrder 24 = .ok (.invokevirtual 36, 3) := by decide +kernel
theorem dX1_readOrder_27 : decode cX1_readOrder 27 = .ok (.putfield 40, 3) := by decide +kernel
theorem dX1_readOrder_30 : decode cX1_readOrder 30 = .ok (.aload_n 0, 1) := by decide +kernel
theorem dX1_readOrder_31 : decode cX1_readOrder 31 = .ok (.getfield 40, 3) := by decide +kernel
theorem dX1_readOrder_34 : decode cX1_readOrder 34 = .ok (.ifCond .ge 5, 3) := by decide +kernel
theorem dX1_readOrder_37 : decode cX1_readOrder 37 = .ok (.iconst 0, 1) := by decide +kernel
theorem dX1_readOrder_38 : decode cX1_readOrder 38 = .ok (.ireturn, 1) := by decide +kernel
theorem dX1_readOrder_39 : decode cX1_readOrder 39 = .ok (.aload_n 0, 1) := by decide +kernel
theorem dX1_readOrder_40 : decode cX1_readOrder 40 = .ok (.aload_n 0, 1) := by decide +kernel
theorem dX1_readOrder_41 : decode cX1_readOrder 41 = .ok (.invokevirtual 43, 3) := by decide +kernel
theorem dX1_readOrder_44 : decode cX1_readOrder 44 = .ok (.putfield 30, 3) := by decide +kernel
theorem dX1_readOrder_47 : decode cX1_readOrder 47 = .ok (.aload_n 0, 1) := by decide +kernel
theorem dX1_readOrder_48 : decode cX1_readOrder 48 = .ok (.getfield 30, 3) := by decide +kernel
theorem dX1_readOrder_51 : decode cX1_readOrder 51 = .ok (.lookupswitch 112 #[(62, 81), (111, 69), (115, 49), (116, 56), (118, 62)], 49) := by decide +kernel
theorem dX1_readOrder_100 : decode cX1_readOrder 100 = .ok (.aload_n 0, 1) := by decide +kernel
theorem dX1_readOrder_101 : decode cX1_readOrder 101 = .ok (.ldc 47, 2) := by decide +kernel
theorem dX1_readOrder_103 : decode cX1_readOrder 103 = .ok (.invokevirtual 48, 3) := by decide +kernel
theorem dX1_readOrder_106 : decode cX1_readOrder 106 = .ok (.ireturn, 1) := by decide +kernel
theorem dX1_readOrder_107 : decode cX1_readOrder 107 = .ok (.aload_n 0, 1) := by decide +kernel
theorem dX1_readOrder_108 : decode cX1_readOrder 108 = .ok (.iconst 3, 1) := by decide +kernel
theorem dX1_readOrder_109 : decode cX1_readOrder 109 = .ok (.invokevirtual 48, 3) := by decide +kernel
theorem dX1_readOrder_112 : decode cX1_readOrder 112 = .ok (.ireturn, 1) := by decide +kernel
theorem dX1_readOrder_113 : decode cX1_readOrder 113 = .ok (.aload_n 0, 1) := by decide +kernel
theorem dX1_readOrder_114 : decode cX1_readOrder 114 = .ok (.bipush 16, 2) := by decide +kernel
theorem dX1_readOrder_116 : decode cX1_readOrder 116 = .ok (.invokevirtual 48, 3) := by decide +kernel
theorem dX1_readOrder_119 : decode cX1_readOrder 119 = .ok (.ireturn, 1) := by decide +kernel
theorem dX1_readOrder_120 : decode cX1_readOrder 120 = .ok (.aload_n 0, 1) := by decide +kernel
theorem dX1_readOrder_121 : decode cX1_readOrder 121 = .ok (.dup, 1) := by decide +kernel
theorem dX1_readOrder_122 : decode cX1_readOrder 122 = .ok (.getfield 19, 3) := by decide +kernel
theorem dX1_readOrder_125 : decode cX1_readOrder 125 = .ok (.iconst 1, 1) := by decide +kernel
theorem dX1_readOrder_126 : decode cX1_readOrder 126 = .ok (.iadd, 1) := by decide +kernel
theorem dX1_readOrder_127 : decode cX1_readOrder 127 = .ok (.putfield 19, 3) := by decide +kernel
theorem dX1_readOrder_130 : decode cX1_readOrder 130 = .ok (.iconst 1, 1) := by decide +kernel
theorem dX1_readOrder_131 : decode cX1_readOrder 131 = .ok (.ireturn, 1) := by decide +kernel
theorem dX1_readOrder_132 : decode cX1_readOrder 132 = .ok (.aload_n 0, 1) := by decide +kernel
theorem dX1_readOrder_133 : decode cX1_readOrder 133 = .ok (.ldc 47, 2) := by decide +kernel
theorem dX1_readOrder_135 : decode cX1_readOrder 135 = .ok (.invokevirtual 48, 3) := by decide +kernel
theorem dX1_readOrder_138 : decode cX1_readOrder 138 = .ok (.ifCond .eq 23, 3) := by decide +kernel
theorem dX1_readOrder_141 : decode cX1_readOrder 141 = .ok (.aload_n 0, 1) := by decide +kernel
theorem dX1_readOrder_142 : decode cX1_readOrder 142 = .ok (.bipush 58, 2) := by decide +kernel
theorem dX1_readOrder_144 : decode cX1_readOrder 144 = .ok (.invokevirtual 26, 3) := by decide +kernel
theorem dX1_readOrder_147 : decode cX1_readOrder 147 = .ok (.ifCond .eq 14, 3) := by decide +kernel
theorem dX1_readOrder_150 : decode cX1_readOrder 150 = .ok (.aload_n 0, 1) := by decide +kernel
theorem dX1_readOrder_151 : decode cX1_readOrder 151 = .ok (.invokevirtual 33, 3) := by decide +kernel
theorem dX1_readOrder_154 : decode cX1_readOrder 154 = .ok (.ifCond .eq 7, 3) := by decide +kernel
theorem dX1_readOrder_157 : decode cX1_readOrder 157 = .ok (.iconst 1, 1) := by decide +kernel
theorem dX1_readOrder_158 : decode cX1_readOrder 158 = .ok (.goto 4, 3) := by decide +kernel
theorem dX1_readOrder_161 : decode cX1_readOrder 161 = .ok (.iconst 0, 1) := by decide +kernel
theorem dX1_readOrder_162 : decode cX1_readOrder 162 = .ok (.ireturn, 1) := by decide +kernel
theorem dX1_readOrder_163 : decode cX1_readOrder 163 = .ok (.iconst 0, 1) := by decide +kernel
theorem dX1_readOrder_164 : decode cX1_readOrder 164 = .ok (.ireturn, 1) := by decide +kernel
set_option maxRecDepth 20000 in
theorem ggX1_readBehindSign_X1_readNumber : GoodIn wsX1_readBehindSign wsX1_readNumber := goodIn_r _ [7, 1, 8, 9, 10, 11, 6, 12, 13, 14, 15, 16, 17, 18, 19, 20, 21, 22, 23, 24, 25, 26, 27] (by decide +kernel) (by decide +kernel)
set_option maxRecDepth 20000 in
theorem gX1_readBehindSign_X1_readNumber : GoodIn wsX1_readBehindSign (wsV RX1 36 RX1 yX1_readNumber wsX1_readNumber) := goodIn_app (goodIn_of _ (by decide +kernel)) ggX1_readBehindSign_X1_readNumber
theorem dX1_readBehindSign_0 : decode cX1_readBehindSign 0 = .ok (.aload_n 0, 1) := by decide +kernel
theorem dX1_readBehindSign_1 : decode cX1_readBehindSign 1 = .ok (.dup, 1) := by decide +kernel
theorem dX1_readBehindSign_2 : decode cX1_readBehindSign 2 = .ok (.getfield 19, 3) := by decide +kernel
theorem dX1_readBehindSign_5 : decode cX1_readBehindSign 5 = .ok (.iconst 1, 1) := by decide +kernel
theorem dX1_readBehindSign_6 : decode cX1_readBehindSign 6 = .ok (.iadd, 1) := by decide +kernel
theorem dX1_readBehindSign_7 : decode cX1_readBehindSign 7 = .ok (.putfield 19, 3) := by decide +kernel
theorem dX1_readBehindSign_10 : decode cX1_readBehindSign 10 = .ok (.aload_n 0, 1) := by decide +kernel
theorem dX1_readBehindSign_11 : decode cX1_readBehindSign 11 = .ok (.aload_n 0, 1) := by decide +kernel
theorem dX1_readBehindSign_12 : decode cX1_readBehindSign 12 = .ok (.iconst 0, 1) := by decide +kernel
theorem dX1_readBehindSign_13 : decode cX1_readBehindSign 13 = .ok (.iload_n 1, 1) := by decide +kernel
theorem dX1_readBehindSign_14 : decode cX1_readBehindSign 14 = .ok (.invokevirtual 36, 3) := by decide +kernel
theorem dX1_readBehindSign_17 : decode cX1_readBehindSign 17 = .ok (.putfield 51, 3) := by decide +kernel
theorem dX1_readBehindSign_20 : decode cX1_readBehindSign 20 = .ok (.aload_n 0, 1) := by decide +kernel
theorem dX1_readBehindSign_21 : decode cX1_readBehindSign 21 = .ok (.getfield 51, 3) := by decide +kernel
theorem dX1_readBehindSign_24 : decode cX1_readBehindSign 24 = .ok (.ifCond .lt 7, 3) := by decide +kernel
theorem dX1_readBehindSign_27 : decode cX1_readBehindSign 27 = .ok (.iconst 1, 1) := by decide +kernel
theorem dX1_readBehindSign_28 : decode cX1_readBehindSign 28 = .ok (.goto 4, 3) := by decide +kernel
theorem dX1_readBehindSign_31 : decode cX1_readBehindSign 31 = .ok (.iconst 0, 1) := by decide +kernel
theorem dX1_readBehindSign_32 : decode cX1_readBehindSign 32 = .ok (.ireturn, 1) := by decide +kernel
set_option maxRecDepth 20000 in
theorem ggX1_readSamples_X1_readNumber : GoodIn wsX1_readSamples wsX1_readNumber := goodIn_r _ [6, 7, 8, 9, 10, 11, 5, 12, 13, 14, 15, 16, 17, 18, 19, 20, 21, 22, 23, 24, 25, 26, 27] (by decide +kernel) (by decide +kernel)
set_option maxRecDepth 20000 in
theorem gX1_readSamples_X1_readNumber : GoodIn wsX1_readSamples (wsV RX1 36 RX1 yX1_readNumber wsX1_readNumber) := goodIn_app (goodIn_of _ (by decide +kernel)) ggX1_readSamples_X1_readNumber
theorem dX1_readSamples_0 : decode cX1_readSamples 0 = .ok (.aload_n 0, 1) := by decide +kernel
theorem dX1_readSamples_1 : decode cX1_readSamples 1 = .ok (.aload_n 0, 1) := by decide +kernel
theorem dX1_readSamples_2 : decode cX1_readSamples 2 = .ok (.iconst 1, 1) := by decide +kernel
theorem dX1_readSamples_3 : decode cX1_readSamples 3 = .ok (.sipush 999, 3) := by decide +kernel
theorem dX1_readSamples_6 : decode cX1_readSamples 6 = .ok (.invokevirtual 36, 3) := by decide +kernel
theorem dX1_readSamples_9 : decode cX1_readSamples 9 = .ok (.putfield 54, 3) := by decide +kernel
theorem dX1_readSamples_12 : decode cX1_readSamples 12 = .ok (.aload_n 0, 1) := by decide +kernel
theorem dX1_readSamples_13 : decode cX1_readSamples 13 = .ok (.getfield 54, 3) := by decide +kernel
theorem dX1_readSamples_16 : decode cX1_readSamples 16 = .ok (.ifCond .lt 7, 3) := by decide +kernel
theorem dX1_readSamples_19 : decode cX1_readSamples 19 = .ok (.iconst 1, 1) := by decide +kernel
theorem dX1_readSamples_20 : decode cX1_readSamples 20 = .ok (.goto 4, 3) := by decide +kernel
theorem dX1_readSamples_23 : decode cX1_readSamples 23 = .ok (.iconst 0, 1) := by decide +kernel
theorem dX1_readSamples_24 : decode cX1_readSamples 24 = .ok (.ireturn, 1) := by decide +kernel
set_option maxRecDepth 20000 in
theorem ggX1_readNumber_X1_digitHere : GoodIn wsX1_readNumber wsX1_digitHere := goodIn_r _ [7, 8, 9, 10, 6, 11, 1, 2, 12, 13, 14, 15, 16, 17, 18, 19, 20, 21, 22] (by decide +kernel) (by decide +kernel)
set_option maxRecDepth 20000 in
theorem gX1_readNumber_X1_digitHere : GoodIn wsX1_readNumber (wsV RX1 57 RX1 yX1_digitHere wsX1_digitHere) := goodIn_app (goodIn_of _ (by decide +kernel)) ggX1_readNumber_X1_digitHere
set_option maxRecDepth 20000 in
theorem ggX1_readNumber_X5_isOutside : GoodIn wsX1_readNumber wsX5_isOutside := goodIn_r _ [15] (by decide +kernel) (by decide +kernel)
set_option maxRecDepth 20000 in
theorem gX1_readNumber_X5_isOutside_n60 : GoodIn wsX1_readNumber (wsX5_isOutside) := ggX1_readNumber_X5_isOutside
theorem dX1_readNumber_0 : decode cX1_readNumber 0 = .ok (.aload_n 0, 1) := by decide +kernel
theorem dX1_readNumber_1 : decode cX1_readNumber 1 = .ok (.invokevirtual 57, 3) := by decide +kernel
theorem dX1_readNumber_4 : decode cX1_readNumber 4 = .ok (.istore_n 3, 1) := by decide +kernel
theorem dX1_readNumber_5 : decode cX1_readNumber 5 = .ok (.iload_n 3, 1) := by decide +kernel
theorem dX1_readNumber_6 : decode cX1_readNumber 6 = .ok (.iload_n 1, 1) := by decide +kernel
theorem dX1_readNumber_7 : decode cX1_readNumber 7 = .ok (.iload_n 2, 1) := by decide +kernel
theorem dX1_readNumber_8 : decode cX1_readNumber 8 = .ok (.invokestatic 60, 3) := by decide +kernel
theorem dX1_readNumber_11 : decode cX1_readNumber 11 = .ok (.ifCond .eq 5, 3) := by decide +kernel
theorem dX1_readNumber_14 : decode cX1_readNumber 14 = .ok (.iconst (-1), 1) := by decide +kernel
theorem dX1_readNumber_15 : decode cX1_readNumber 15 = .ok (.ireturn, 1) := by decide +kernel
theorem dX1_readNumber_16 : decode cX1_readNumber 16 = .ok (.iload_n 3, 1) := by decide +kernel
theorem dX1_readNumber_17 : decode cX1_readNumber 17 = .ok (.istore 4, 2) := by decide +kernel
theorem dX1_readNumber_19 : decode cX1_readNumber 19 = .ok (.aload_n 0, 1) := by decide +kernel
theorem dX1_readNumber_20 : decode cX1_readNumber 20 = .ok (.dup, 1) := by decide +kernel
theorem dX1_readNumber_21 : decode cX1_readNumber 21 = .ok (.getfield 19, 3) := by decide +kernel
theorem dX1_readNumber_24 : decode cX1_readNumber 24 = .ok (.iconst 1, 1) := by decide +kernel
theorem dX1_readNumber_25 : decode cX1_readNumber 25 = .ok (.iadd, 1) := by decide +kernel
theorem dX1_readNumber_26 : decode cX1_readNumber 26 = .ok (.putfield 19, 3) := by decide +kernel
theorem dX1_readNumber_29 : decode cX1_readNumber 29 = .ok (.aload_n 0, 1) := by decide +kernel
theorem dX1_readNumber_30 : decode cX1_readNumber 30 = .ok (.getfield 19, 3) := by decide +kernel
theorem dX1_readNumber_33 : decode cX1_readNumber 33 = .ok (.aload_n 0, 1) := by decide +kernel
theorem dX1_readNumber_34 : decode cX1_readNumber 34 = .ok (.getfield 15, 3) := by decide +kernel
theorem dX1_readNumber_37 : decode cX1_readNumber 37 = .ok (.if_icmp .ge 54, 3) := by decide +kernel
theorem dX1_readNumber_40 : decode cX1_readNumber 40 = .ok (.iload 4, 2) := by decide +kernel
theorem dX1_readNumber_42 : decode cX1_readNumber 42 = .ok (.ifCond .le 49, 3) := by decide +kernel
theorem dX1_readNumber_45 : decode cX1_readNumber 45 = .ok (.aload_n 0, 1) := by decide +kernel
theorem dX1_readNumber_46 : decode cX1_readNumber 46 = .ok (.invokevirtual 57, 3) := by decide +kernel
theorem dX1_readNumber_49 : decode cX1_readNumber 49 = .ok (.ifCond .lt 42, 3) := by decide +kernel
theorem dX1_readNumber_52 : decode cX1_readNumber 52 = .ok (.bipush 10, 2) := by decide +kernel
theorem dX1_readNumber_54 : decode cX1_readNumber 54 = .ok (.iload 4, 2) := by decide +kernel
theorem dX1_readNumber_56 : decode cX1_readNumber 56 = .ok (.imul, 1) := by decide +kernel
theorem dX1_readNumber_57 : decode cX1_readNumber 57 = .ok (.aload_n 0, 1) := by decide +kernel
theorem dX1_readNumber_58 : decode cX1_readNumber 58 = .ok (.invokevirtual 57, 3) := by decide +kernel
theorem dX1_readNumber_61 : decode cX1_readNumber 61 = .ok (.iadd, 1) := by decide +kernel
theorem dX1_readNumber_62 : decode cX1_readNumber 62 = .ok (.iload_n 2, 1) := by decide +kernel
theorem dX1_readNumber_63 : decode cX1_readNumber 63 = .ok (.if_icmp .gt 28, 3) := by decide +kernel
theorem dX1_readNumber_66 : decode cX1_readNumber 66 = .ok (.bipush 10, 2) := by decide +kernel
theorem dX1_readNumber_68 : decode cX1_readNumber 68 = .ok (.iload 4, 2) := by decide +kernel
theorem dX1_readNumber_70 : decode cX1_readNumber 70 = .ok (.imul, 1) := by decide +kernel
theorem dX1_readNumber_71 : decode cX1_readNumber 71 = .ok (.aload_n 0, 1) := by decide +kernel
theorem dX1_readNumber_72 : decode cX1_readNumber 72 = .ok (.invokevirtual 57, 3) := by decide +kernel
theorem dX1_readNumber_75 : decode cX1_readNumber 75 = .ok (.iadd, 1) := by decide +kernel
theorem dX1_readNumber_76 : decode cX1_readNumber 76 = .ok (.istore 4, 2) := by decide +kernel
theorem dX1_readNumber_78 : decode cX1_readNumber 78 = .ok (.aload_n 0, 1) := by decide +kernel
theorem dX1_readNumber_79 : decode cX1_readNumber 79 = .ok (.dup, 1) := by decide +kernel
theorem dX1_readNumber_80 : decode cX1_readNumber 80 = .ok (.getfield 19, 3) := by decide +kernel
theorem dX1_readNumber_83 : decode cX1_readNumber 83 = .ok (.iconst 1, 1) := by decide +kernel
theorem dX1_readNumber_84 : decode cX1_readNumber 84 = .ok (.iadd, 1) := by decide +kernel
theorem dX1_readNumber_85 : decode cX1_readNumber 85 = .ok (.putfield 19, 3) := by decide +kernel
theorem dX1_readNumber_88 : decode cX1_readNumber 88 = .ok (.goto (-59), 3) := by decide +kernel
theorem dX1_readNumber_91 : decode cX1_readNumber 91 = .ok (.iload 4, 2) := by decide +kernel
theorem dX1_readNumber_93 : decode cX1_readNumber 93 = .ok (.ireturn, 1) := by decide +kernel
set_option maxRecDepth 20000 in
theorem ggX1_pass_X1_signHere : GoodIn wsX1_pass wsX1_signHere := goodIn_r _ [6, 1, 7, 8, 9, 10, 11, 12, 13, 14, 15] (by decide +kernel) (by decide +kernel)
set_option maxRecDepth 20000 in
theorem gX1_pass_X1_signHere : GoodIn wsX1_pass (wsV RX1 43 RX1 yX1_signHere wsX1_signHere) := goodIn_app (goodIn_of _ (by decide +kernel)) ggX1_pass_X1_signHere
theorem dX1_pass_0 : decode cX1_pass 0 = .ok (.aload_n 0, 1) := by decide +kernel
theorem dX1_pass_1 : decode cX1_pass 1 = .ok (.invokevirtual 43, 3) := by decide +kernel
theorem dX1_pass_4 : decode cX1_pass 4 = .ok (.iload_n 1, 1) := by decide +kernel
theorem dX1_pass_5 : decode cX1_pass 5 = .ok (.if_icmp .eq 5, 3) := by decide +kernel
theorem dX1_pass_8 : decode cX1_pass 8 = .ok (.iconst 0, 1) := by decide +kernel
theorem dX1_pass_9 : decode cX1_pass 9 = .ok (.ireturn, 1) := by decide +kernel
theorem dX1_pass_10 : decode cX1_pass 10 = .ok (.aload_n 0, 1) := by decide +kernel
theorem dX1_pass_11 : decode cX1_pass 11 = .ok (.dup, 1) := by decide +kernel
theorem dX1_pass_12 : decode cX1_pass 12 = .ok (.getfield 19, 3) := by decide +kernel
theorem dX1_pass_15 : decode cX1_pass 15 = .ok (.iconst 1, 1) := by decide +kernel
theorem dX1_pass_16 : decode cX1_pass 16 = .ok (.iadd, 1) := by decide +kernel
theorem dX1_pass_17 : decode cX1_pass 17 = .ok (.putfield 19, 3) := by decide +kernel
theorem dX1_pass_20 : decode cX1_pass 20 = .ok (.iconst 1, 1) := by decide +kernel
theorem dX1_pass_21 : decode cX1_pass 21 = .ok (.ireturn, 1) := by decide +kernel
theorem dX1_signHere_0 : decode cX1_signHere 0 = .ok (.aload_n 0, 1) := by decide +kernel
theorem dX1_signHere_1 : decode cX1_signHere 1 = .ok (.getfield 19, 3) := by decide +kernel
theorem dX1_signHere_4 : decode cX1_signHere 4 = .ok (.ifCond .lt 35, 3) := by decide +kernel
theorem dX1_signHere_7 : decode cX1_signHere 7 = .ok (.aload_n 0, 1) := by decide +kernel
theorem dX1_signHere_8 : decode cX1_signHere 8 = .ok (.getfield 19, 3) := by decide +kernel
theorem dX1_signHere_11 : decode cX1_signHere 11 = .ok (.aload_n 0, 1) := by decide +kernel
theorem dX1_signHere_12 : decode cX1_signHere 12 = .ok (.getfield 15, 3) := by decide +kernel
theorem dX1_signHere_15 : decode cX1_signHere 15 = .ok (.if_icmp .ge 24, 3) := by decide +kernel
theorem dX1_signHere_18 : decode cX1_signHere 18 = .ok (.aload_n 0, 1) := by decide +kernel
theorem dX1_signHere_19 : decode cX1_signHere 19 = .ok (.getfield 19, 3) := by decide +kernel
theorem dX1_signHere_22 : decode cX1_signHere 22 = .ok (.bipush 60, 2) := by decide +kernel
theorem dX1_signHere_24 : decode cX1_signHere 24 = .ok (.if_icmp .ge 15, 3) := by decide +kernel
theorem dX1_signHere_27 : decode cX1_signHere 27 = .ok (.aload_n 0, 1) := by decide +kernel
theorem dX1_signHere_28 : decode cX1_signHere 28 = .ok (.getfield 9, 3) := by decide +kernel
theorem dX1_signHere_31 : decode cX1_signHere 31 = .ok (.aload_n 0, 1) := by decide +kernel
theorem dX1_signHere_32 : decode cX1_signHere 32 = .ok (.getfield 19, 3) := by decide +kernel
theorem dX1_signHere_35 : decode cX1_signHere 35 = .ok (.caload, 1) := by decide +kernel
theorem dX1_signHere_36 : decode cX1_signHere 36 = .ok (.goto 4, 3) := by decide +kernel
theorem dX1_signHere_39 : decode cX1_signHere 39 = .ok (.iconst (-1), 1) := by decide +kernel
theorem dX1_signHere_40 : decode cX1_signHere 40 = .ok (.ireturn, 1) := by decide +kernel
set_option maxRecDepth 20000 in
theorem ggX1_digitHere_X1_signHere : GoodIn wsX1_digitHere wsX1_signHere := goodIn_r _ [5, 6, 7, 8, 12, 13, 14, 15, 16, 17, 18] (by decide +kernel) (by decide +kernel)
set_option maxRecDepth 20000 in
theorem gX1_digitHere_X1_signHere : GoodIn wsX1_digitHere (wsV RX1 43 RX1 yX1_signHere wsX1_signHere) := goodIn_app (goodIn_of _ (by decide +kernel)) ggX1_digitHere_X1_signHere
set_option maxRecDepth 20000 in
theorem ggX1_digitHere_X5_isOutside : GoodIn wsX1_digitHere wsX5_isOutside := goodIn_r _ [11] (by decide +kernel) (by decide +kernel)
set_option maxRecDepth 20000 in
theorem gX1_digitHere_X5_isOutside_n60 : GoodIn wsX1_digitHere (wsX5_isOutside) := ggX1_digitHere_X5_isOutside
theorem dX1_digitHere_0 : decode cX1_digitHere 0 = .ok (.aload_n 0, 1) := by decide +kernel
theorem dX1_digitHere_1 : decode cX1_digitHere 1 = .ok (.invokevirtual 43, 3) := by decide +kernel
theorem dX1_digitHere_4 : decode cX1_digitHere 4 = .ok (.istore_n 1, 1) := by decide +kernel
theorem dX1_digitHere_5 : decode cX1_digitHere 5 = .ok (.iload_n 1, 1) := by decide +kernel
theorem dX1_digitHere_6 : decode cX1_digitHere 6 = .ok (.bipush 48, 2) := by decide +kernel
theorem dX1_digitHere_8 : decode cX1_digitHere 8 = .ok (.bipush 57, 2) := by decide +kernel
theorem dX1_digitHere_10 : decode cX1_digitHere 10 = .ok (.invokestatic 60, 3) := by decide +kernel
theorem dX1_digitHere_13 : decode cX1_digitHere 13 = .ok (.ifCond .eq 7, 3) := by decide +kernel
theorem dX1_digitHere_16 : decode cX1_digitHere 16 = .ok (.iconst (-1), 1) := by decide +kernel
theorem dX1_digitHere_17 : decode cX1_digitHere 17 = .ok (.goto 7, 3) := by decide +kernel
theorem dX1_digitHere_20 : decode cX1_digitHere 20 = .ok (.iload_n 1, 1) := by decide +kernel
theorem dX1_digitHere_21 : decode cX1_digitHere 21 = .ok (.bipush 48, 2) := by decide +kernel
theorem dX1_digitHere_23 : decode cX1_digitHere 23 = .ok (.isub, 1) := by decide +kernel
theorem dX1_digitHere_24 : decode cX1_digitHere 24 = .ok (.ireturn, 1) := by decide +kernel
set_option maxRecDepth 20000 in
theorem ggX2_init_X3_init : GoodIn wsX2_init wsX3_init := goodIn_r _ [12, 13, 2, 3, 14, 15, 16, 17, 18, 19, 20, 21, 22, 23, 24, 25, 26, 27, 28, 29, 32, 33, 34, 35, 36, 37, 38, 39, 40, 41, 42, 43, 44, 45, 46, 47, 48, 49] (by decide +kernel) (by decide +kernel)
set_option maxRecDepth 20000 in
theorem gX2_init_X3_init : GoodIn wsX2_init (wsX3_init) := ggX2_init_X3_init
theorem dX2_init_0 : decode cX2_init 0 = .ok (.aload_n 0, 1) := by decide +kernel
theorem dX2_init_1 : decode cX2_init 1 = .ok (.invokespecial 3, 3) := by decide +kernel
theorem dX2_init_4 : decode cX2_init 4 = .ok (.aload_n 0, 1) := by decide +kernel
theorem dX2_init_5 : decode cX2_init 5 = .ok (.iconst 2, 1) := by decide +kernel
theorem dX2_init_6 : decode cX2_init 6 = .ok (.anewarray 9, 3) := by decide +kernel
theorem dX2_init_9 : decode cX2_init 9 = .ok (.putfield 11, 3) := by decide +kernel
theorem dX2_init_12 : decode cX2_init 12 = .ok (.aload_n 0, 1) := by decide +kernel
theorem dX2_init_13 : decode cX2_init 13 = .ok (.iconst 2, 1) := by decide +kernel
theorem dX2_init_14 : decode cX2_init 14 = .ok (.newarray .boolean, 2) := by decide +kernel
theorem dX2_init_16 : decode cX2_init 16 = .ok (.putfield 17, 3) := by decide +kernel
theorem dX2_init_19 : decode cX2_init 19 = .ok (.iconst 0, 1) := by decide +kernel
theorem dX2_init_20 : decode cX2_init 20 = .ok (.istore_n 1, 1) := by decide +kernel
theorem dX2_init_21 : decode cX2_init 21 = .ok (.iload_n 1, 1) := by decide +kernel
theorem dX2_init_22 : decode cX2_init 22 = .ok (.iconst 2, 1) := by decide +kernel
theorem dX2_init_23 : decode cX2_init 23 = .ok (.if_icmp .ge 22, 3) := by decide +kernel
theorem dX2_init_26 : decode cX2_init 26 = .ok (.aload_n 0, 1) := by decide +kernel
theorem dX2_init_27 : decode cX2_init 27 = .ok (.getfield 11, 3) := by decide +kernel
theorem dX2_init_30 : decode cX2_init 30 = .ok (.iload_n 1, 1) := by decide +kernel
theorem dX2_init_31 : decode cX2_init 31 = .ok (.new 9, 3) := by decide +kernel
theorem dX2_init_34 : decode cX2_init 34 = .ok (.dup, 1) := by decide +kernel
theorem dX2_init_35 : decode cX2_init 35 = .ok (.invokespecial 21, 3) := by decide +kernel
theorem dX2_init_38 : decode cX2_init 38 = .ok (.aastore, 1) := by decide +kernel
theorem dX2_init_39 : decode cX2_init 39 = .ok (.iinc 1 1, 3) := by decide +kernel
theorem dX2_init_42 : decode cX2_init 42 = .ok (.goto (-21), 3) := by decide +kernel
theorem dX2_init_45 : decode cX2_init 45 = .ok (.return_, 1) := by decide +kernel
set_option maxRecDepth 20000 in
theorem ggX3_init_X4_init : GoodIn wsX3_init wsX4_init := goodIn_r _ [14, 15, 2, 3, 16, 17, 5, 18, 19, 28, 29, 30, 31, 32, 33, 34, 35, 36, 37] (by decide +kernel) (by decide +kernel)
set_option maxRecDepth 20000 in
theorem gX3_init_X4_init_n28 : GoodIn wsX3_init (wsX4_init) := ggX3_init_X4_init
theorem dX3_init_0 : decode cX3_init 0 = .ok (.aload_n 0, 1) := by decide +kernel
theorem dX3_init_1 : decode cX3_init 1 = .ok (.invokespecial 3, 3) := by decide +kernel
theorem dX3_init_4 : decode cX3_init 4 = .ok (.aload_n 0, 1) := by decide +kernel
theorem dX3_init_5 : decode cX3_init 5 = .ok (.sipush 400, 3) := by decide +kernel
theorem dX3_init_8 : decode cX3_init 8 = .ok (.putfield 9, 3) := by decide +kernel
theorem dX3_init_11 : decode cX3_init 11 = .ok (.aload_n 0, 1) := by decide +kernel
theorem dX3_init_12 : decode cX3_init 12 = .ok (.bipush 64, 2) := by decide +kernel
theorem dX3_init_14 : decode cX3_init 14 = .ok (.newarray .int, 2) := by decide +kernel
theorem dX3_init_16 : decode cX3_init 16 = .ok (.putfield 15, 3) := by decide +kernel
theorem dX3_init_19 : decode cX3_init 19 = .ok (.aload_n 0, 1) := by decide +kernel
theorem dX3_init_20 : decode cX3_init 20 = .ok (.iconst 4, 1) := by decide +kernel
theorem dX3_init_21 : decode cX3_init 21 = .ok (.anewarray 19, 3) := by decide +kernel
theorem dX3_init_24 : decode cX3_init 24 = .ok (.putfield 21, 3) := by decide +kernel
theorem dX3_init_27 : decode cX3_init 27 = .ok (.aload_n 0, 1) := by decide +kernel
theorem dX3_init_28 : decode cX3_init 28 = .ok (.bipush 32, 2) := by decide +kernel
theorem dX3_init_30 : decode cX3_init 30 = .ok (.newarray .int, 2) := by decide +kernel
theorem dX3_init_32 : decode cX3_init 32 = .ok (.putfield 25, 3) := by decide +kernel
theorem dX3_init_35 : decode cX3_init 35 = .ok (.iconst 0, 1) := by decide +kernel
theorem dX3_init_36 : decode cX3_init 36 = .ok (.istore_n 1, 1) := by decide +kernel
theorem dX3_init_37 : decode cX3_init 37 = .ok (.iload_n 1, 1) := by decide +kernel
theorem dX3_init_38 : decode cX3_init 38 = .ok (.bipush 16, 2) := by decide +kernel
theorem dX3_init_40 : decode cX3_init 40 = .ok (.if_icmp .ge 72, 3) := by decide +kernel
theorem dX3_init_43 : decode cX3_init 43 = .ok (.iload_n 1, 1) := by decide +kernel
theorem dX3_init_44 : decode cX3_init 44 = .ok (.bipush 8, 2) := by decide +kernel
theorem dX3_init_46 : decode cX3_init 46 = .ok (.if_icmp .ge 7, 3) := by decide +kernel
theorem dX3_init_49 : decode cX3_init 49 = .ok (.iconst 1, 1) := by decide +kernel
theorem dX3_init_50 : decode cX3_init 50 = .ok (.goto 4, 3) := by decide +kernel
theorem dX3_init_53 : decode cX3_init 53 = .ok (.iconst 0, 1) := by decide +kernel
theorem dX3_init_54 : decode cX3_init 54 = .ok (.istore_n 2, 1) := by decide +kernel
theorem dX3_init_55 : decode cX3_init 55 = .ok (.aload_n 0, 1) := by decide +kernel
theorem dX3_init_56 : decode cX3_init 56 = .ok (.getfield 15, 3) := by decide +kernel
theorem dX3_init_59 : decode cX3_init 59 = .ok (.iload_n 1, 1) := by decide +kernel
theorem dX3_init_60 : decode cX3_init 60 = .ok (.iload_n 1, 1) := by decide +kernel
theorem dX3_init_61 : decode cX3_init 61 = .ok (.iastore, 1) := by decide +kernel
theorem dX3_init_62 : decode cX3_init 62 = .ok (.aload_n 0, 1) := by decide +kernel
theorem dX3_init_63 : decode cX3_init 63 = .ok (.getfield 15, 3) := by decide +kernel
theorem dX3_init_66 : decode cX3_init 66 = .ok (.bipush 16, 2) := by decide +kernel
theorem dX3_init_68 : decode cX3_init 68 = .ok (.iload_n 1, 1) := by decide +kernel
theorem dX3_init_69 : decode cX3_init 69 = .ok (.iadd, 1) := by decide +kernel
theorem dX3_init_70 : decode cX3_init 70 = .ok (.iload_n 2, 1) := by decide +kernel
theorem dX3_init_71 : decode cX3_init 71 = .ok (.ifCond .eq 9, 3) := by decide +kernel
theorem dX3_init_74 : decode cX3_init 74 = .ok (.iconst 2, 1) := by decide +kernel
theorem dX3_init_75 : decode cX3_init 75 = .ok (.iload_n 1, 1) := by decide +kernel
theorem dX3_init_76 : decode cX3_init 76 = .ok (.imul, 1) := by decide +kernel
theorem dX3_init_77 : decode cX3_init 77 = .ok (.goto 9, 3) := by decide +kernel
theorem dX3_init_80 : decode cX3_init 80 = .ok (.bipush 30, 2) := by decide +kernel
theorem dX3_init_82 : decode cX3_init 82 = .ok (.iconst 2, 1) := by decide +kernel
theorem dX3_init_83 : decode cX3_init 83 = .ok (.iload_n 1, 1) := by decide +kernel
theorem dX3_init_84 : decode cX3_init 84 = .ok (.imul, 1) := by decide +kernel
theorem dX3_init_85 : decode cX3_init 85 = .ok (.isub, 1) := by decide +kernel
theorem dX3_init_86 : decode cX3_init 86 = .ok (.iastore, 1) := by decide +kernel
theorem dX3_init_87 : decode cX3_init 87 = .ok (.aload_n 0, 1) := by decide +kernel
theorem dX3_init_88 : decode cX3_init 88 = .ok (.getfield 15, 3) := by decide +kernel
theorem dX3_init_91 : decode cX3_init 91 = .ok (.bipush 32, 2) := by decide +kernel
theorem dX3_init_93 : decode cX3_init 93 = .ok (.iload_n 1, 1) := by decide +kernel
theorem dX3_init_94 : decode cX3_init 94 = .ok (.iadd, 1) := by decide +kernel
theorem dX3_init_95 : decode cX3_init 95 = .ok (.iload_n 2, 1) := by decide +kernel
theorem dX3_init_96 : decode cX3_init 96 = .ok (.ifCond .eq 8, 3) := by decide +kernel
theorem dX3_init_99 : decode cX3_init 99 = .ok (.bipush 15, 2) := by decide +kernel
theorem dX3_init_101 : decode cX3_init 101 = .ok (.goto 4, 3) := by decide +kernel
theorem dX3_init_104 : decode cX3_init 104 = .ok (.iconst 0, 1) := by decide +kernel
theorem dX3_init_105 : decode cX3_init 105 = .ok (.iastore, 1) := by decide +kernel
theorem dX3_init_106 : decode cX3_init 106 = .ok (.iinc 1 1, 3) := by decide +kernel
theorem dX3_init_109 : decode cX3_init 109 = .ok (.goto (-72), 3) := by decide +kernel
theorem dX3_init_112 : decode cX3_init 112 = .ok (.iconst 0, 1) := by decide +kernel
theorem dX3_init_113 : decode cX3_init 113 = .ok (.istore_n 1, 1) := by decide +kernel
theorem dX3_init_114 : decode cX3_init 114 = .ok (.iload_n 1, 1) := by decide +kernel
theorem dX3_init_115 : decode cX3_init 115 = .ok (.iconst 4, 1) := by decide +kernel
theorem dX3_init_116 : decode cX3_init 116 = .ok (.if_icmp .ge 22, 3) := by decide +kernel
theorem dX3_init_119 : decode cX3_init 119 = .ok (.aload_n 0, 1) := by decide +kernel
theorem dX3_init_120 : decode cX3_init 120 = .ok (.getfield 21, 3) := by decide +kernel
theorem dX3_init_123 : decode cX3_init 123 = .ok (.iload_n 1, 1) := by decide +kernel
theorem dX3_init_124 : decode cX3_init 124 = .ok (.new 19, 3) := by decide +kernel
theorem dX3_init_127 : decode cX3_init 127 = .ok (.dup, 1) := by decide +kernel
theorem dX3_init_128 : decode cX3_init 128 = .ok (.invokespecial 28, 3) := by decide +kernel
theorem dX3_init_131 : decode cX3_init 131 = .ok (.aastore, 1) := by decide +kernel
theorem dX3_init_132 : decode cX3_init 132 = .ok (.iinc 1 1, 3) := by decide +kernel
theorem dX3_init_135 : decode cX3_init 135 = .ok (.goto (-21), 3) := by decide +kernel
theorem dX3_init_138 : decode cX3_init 138 = .ok (.aload_n 0, 1) := by decide +kernel
theorem dX3_init_139 : decode cX3_init 139 = .ok (.getfield 21, 3) := by decide +kernel
theorem dX3_init_142 : decode cX3_init 142 = .ok (.iconst 0, 1) := by decide +kernel
theorem dX3_init_143 : decode cX3_init 143 = .ok (.aaload, 1) := by decide +kernel
theorem dX3_init_144 : decode cX3_init 144 = .ok (.iconst 1, 1) := by decide +kernel
theorem dX3_init_145 : decode cX3_init 145 = .ok (.putfield 29, 3) := by decide +kernel
theorem dX3_init_148 : decode cX3_init 148 = .ok (.return_, 1) := by decide +kernel
set_option maxRecDepth 20000 in
theorem ggX3_takeOver_X4_takeOver : GoodIn wsX3_takeOver wsX4_takeOver := goodIn_r _ [17, 18, 19, 20, 21, 22, 23, 24, 25, 4, 5, 6, 26, 27, 28, 37, 38, 39, 40, 41, 42, 43, 44, 45, 46] (by decide +kernel) (by decide +kernel)
set_option maxRecDepth 20000 in
theorem gX3_takeOver_X4_takeOver : GoodIn wsX3_takeOver (wsV RX3 39 RX4 yX4_takeOver wsX4_takeOver) := goodIn_app (goodIn_of _ (by decide +kernel)) ggX3_takeOver_X4_takeOver
theorem dX3_takeOver_0 : decode cX3_takeOver 0 = .ok (.aload_n 0, 1) := by decide +kernel
theorem dX3_takeOver_1 : decode cX3_takeOver 1 = .ok (.aload_n 1, 1) := by decide +kernel
theorem dX3_takeOver_2 : decode cX3_takeOver 2 = .ok (.getfield 9, 3) := by decide +kernel
theorem dX3_takeOver_5 : decode cX3_takeOver 5 = .ok (.putfield 9, 3) := by decide +kernel
theorem dX3_takeOver_8 : decode cX3_takeOver 8 = .ok (.aload_n 1, 1) := by decide +kernel
theorem dX3_takeOver_9 : decode cX3_takeOver 9 = .ok (.getfield 15, 3) := by decide +kernel
theorem dX3_takeOver_12 : decode cX3_takeOver 12 = .ok (.iconst 0, 1) := by decide +kernel
theorem dX3_takeOver_13 : decode cX3_takeOver 13 = .ok (.aload_n 0, 1) := by decide +kernel
theorem dX3_takeOver_14 : decode cX3_takeOver 14 = .ok (.getfield 15, 3) := by decide +kernel
theorem dX3_takeOver_17 : decode cX3_takeOver 17 = .ok (.iconst 0, 1) := by decide +kernel
theorem dX3_takeOver_18 : decode cX3_takeOver 18 = .ok (.bipush 64, 2) := by decide +kernel
theorem dX3_takeOver_20 : decode cX3_takeOver 20 = .ok (.invokestatic 33, 3) := by decide +kernel
theorem dX3_takeOver_23 : decode cX3_takeOver 23 = .ok (.iconst 0, 1) := by decide +kernel
theorem dX3_takeOver_24 : decode cX3_takeOver 24 = .ok (.istore_n 2, 1) := by decide +kernel
theorem dX3_takeOver_25 : decode cX3_takeOver 25 = .ok (.iload_n 2, 1) := by decide +kernel
theorem dX3_takeOver_26 : decode cX3_takeOver 26 = .ok (.iconst 4, 1) := by decide +kernel
theorem dX3_takeOver_27 : decode cX3_takeOver 27 = .ok (.if_icmp .ge 24, 3) := by decide +kernel
theorem dX3_takeOver_30 : decode cX3_takeOver 30 = .ok (.aload_n 0, 1) := by decide +kernel
theorem dX3_takeOver_31 : decode cX3_takeOver 31 = .ok (.getfield 21, 3) := by decide +kernel
theorem dX3_takeOver_34 : decode cX3_takeOver 34 = .ok (.iload_n 2, 1) := by decide +kernel
theorem dX3_takeOver_35 : decode cX3_takeOver 35 = .ok (.aaload, 1) := by decide +kernel
theorem dX3_takeOver_36 : decode cX3_takeOver 36 = .ok (.aload_n 1, 1) := by decide +kernel
theorem dX3_takeOver_37 : decode cX3_takeOver 37 = .ok (.getfield 21, 3) := by decide +kernel
theorem dX3_takeOver_40 : decode cX3_takeOver 40 = .ok (.iload_n 2, 1) := by decide +kernel
theorem dX3_takeOver_41 : decode cX3_takeOver 41 = .ok (.aaload, 1) := by decide +kernel
theorem dX3_takeOver_42 : decode cX3_takeOver 42 = .ok (.invokevirtual 39, 3) := by decide +kernel
theorem dX3_takeOver_45 : decode cX3_takeOver 45 = .ok (.iinc 2 1, 3) := by decide +kernel
theorem dX3_takeOver_48 : decode cX3_takeOver 48 = .ok (.goto (-23), 3) := by decide +kernel
theorem dX3_takeOver_51 : decode cX3_takeOver 51 = .ok (.aload_n 0, 1) := by decide +kernel
theorem dX3_takeOver_52 : decode cX3_takeOver 52 = .ok (.aload_n 1, 1) := by decide +kernel
theorem dX3_takeOver_53 : decode cX3_takeOver 53 = .ok (.getfield 43, 3) := by decide +kernel
theorem dX3_takeOver_56 : decode cX3_takeOver 56 = .ok (.putfield 43, 3) := by decide +kernel
theorem dX3_takeOver_59 : decode cX3_takeOver 59 = .ok (.aload_n 0, 1) := by decide +kernel
theorem dX3_takeOver_60 : decode cX3_takeOver 60 = .ok (.aload_n 1, 1) := by decide +kernel
theorem dX3_takeOver_61 : decode cX3_takeOver 61 = .ok (.getfield 46, 3) := by decide +kernel
theorem dX3_takeOver_64 : decode cX3_takeOver 64 = .ok (.putfield 46, 3) := by decide +kernel
theorem dX3_takeOver_67 : decode cX3_takeOver 67 = .ok (.aload_n 0, 1) := by decide +kernel
theorem dX3_takeOver_68 : decode cX3_takeOver 68 = .ok (.aload_n 1, 1) := by decide +kernel
theorem dX3_takeOver_69 : decode cX3_takeOver 69 = .ok (.getfield 49, 3) := by decide +kernel
theorem dX3_takeOver_72 : decode cX3_takeOver 72 = .ok (.putfield 49, 3) := by decide +kernel
theorem dX3_takeOver_75 : decode cX3_takeOver 75 = .ok (.aload_n 0, 1) := by decide +kernel
theorem dX3_takeOver_76 : decode cX3_takeOver 76 = .ok (.aload_n 1, 1) := by decide +kernel
theorem dX3_takeOver_77 : decode cX3_takeOver 77 = .ok (.getfield 52, 3) := by decide +kernel
theorem dX3_takeOver_80 : decode cX3_takeOver 80 = .ok (.putfield 52, 3) := by decide +kernel
theorem dX3_takeOver_83 : decode cX3_takeOver 83 = .ok (.aload_n 1, 1) := by decide +kernel
theorem dX3_takeOver_84 : decode cX3_takeOver 84 = .ok (.getfield 25, 3) := by decide +kernel
theorem dX3_takeOver_87 : decode cX3_takeOver 87 = .ok (.iconst 0, 1) := by decide +kernel
theorem dX3_takeOver_88 : decode cX3_takeOver 88 = .ok (.aload_n 0, 1) := by decide +kernel
theorem dX3_takeOver_89 : decode cX3_takeOver 89 = .ok (.getfield 25, 3) := by decide +kernel
theorem dX3_takeOver_92 : decode cX3_takeOver 92 = .ok (.iconst 0, 1) := by decide +kernel
theorem dX3_takeOver_93 : decode cX3_takeOver 93 = .ok (.bipush 32, 2) := by decide +kernel
theorem dX3_takeOver_95 : decode cX3_takeOver 95 = .ok (.invokestatic 33, 3) := by decide +kernel
theorem dX3_takeOver_98 : decode cX3_takeOver 98 = .ok (.return_, 1) := by decide +kernel
theorem dX3_valueGivenBy_0 : decode cX3_valueGivenBy 0 = .ok (.aload_n 1, 1) := by decide +kernel
theorem dX3_valueGivenBy_1 : decode cX3_valueGivenBy 1 = .ok (.getfield 55, 3) := by decide +kernel
theorem dX3_valueGivenBy_4 : decode cX3_valueGivenBy 4 = .ok (.bipush 16, 2) := by decide +kernel
theorem dX3_valueGivenBy_6 : decode cX3_valueGivenBy 6 = .ok (.imul, 1) := by decide +kernel
theorem dX3_valueGivenBy_7 : decode cX3_valueGivenBy 7 = .ok (.aload_n 1, 1) := by decide +kernel
theorem dX3_valueGivenBy_8 : decode cX3_valueGivenBy 8 = .ok (.getfield 58, 3) := by decide +kernel
theorem dX3_valueGivenBy_11 : decode cX3_valueGivenBy 11 = .ok (.sipush 4096, 3) := by decide +kernel
theorem dX3_valueGivenBy_14 : decode cX3_valueGivenBy 14 = .ok (.idiv, 1) := by decide +kernel
theorem dX3_valueGivenBy_15 : decode cX3_valueGivenBy 15 = .ok (.iadd, 1) := by decide +kernel
theorem dX3_valueGivenBy_16 : decode cX3_valueGivenBy 16 = .ok (.istore_n 2, 1) := by decide +kernel
theorem dX3_valueGivenBy_17 : decode cX3_valueGivenBy 17 = .ok (.iload_n 2, 1) := by decide +kernel
theorem dX3_valueGivenBy_18 : decode cX3_valueGivenBy 18 = .ok (.ifCond .lt 23, 3) := by decide +kernel
theorem dX3_valueGivenBy_21 : decode cX3_valueGivenBy 21 = .ok (.iload_n 2, 1) := by decide +kernel
theorem dX3_valueGivenBy_22 : decode cX3_valueGivenBy 22 = .ok (.bipush 64, 2) := by decide +kernel
theorem dX3_valueGivenBy_24 : decode cX3_valueGivenBy 24 = .ok (.if_icmp .ge 17, 3) := by decide +kernel
theorem dX3_valueGivenBy_27 : decode cX3_valueGivenBy 27 = .ok (.aload_n 0, 1) := by decide +kernel
theorem dX3_valueGivenBy_28 : decode cX3_valueGivenBy 28 = .ok (.getfield 15, 3) := by decide +kernel
theorem dX3_valueGivenBy_31 : decode cX3_valueGivenBy 31 = .ok (.iload_n 2, 1) := by decide +kernel
theorem dX3_valueGivenBy_32 : decode cX3_valueGivenBy 32 = .ok (.iaload, 1) := by decide +kernel
theorem dX3_valueGivenBy_33 : decode cX3_valueGivenBy 33 = .ok (.aload_n 1, 1) := by decide +kernel
theorem dX3_valueGivenBy_34 : decode cX3_valueGivenBy 34 = .ok (.getfield 61, 3) := by decide +kernel
theorem dX3_valueGivenBy_37 : decode cX3_valueGivenBy 37 = .ok (.imul, 1) := by decide +kernel
theorem dX3_valueGivenBy_38 : decode cX3_valueGivenBy 38 = .ok (.goto 4, 3) := by decide +kernel
theorem dX3_valueGivenBy_41 : decode cX3_valueGivenBy 41 = .ok (.iconst 0, 1) := by decide +kernel
theorem dX3_valueGivenBy_42 : decode cX3_valueGivenBy 42 = .ok (.ireturn, 1) := by decide +kernel
set_option maxRecDepth 20000 in
theorem ggX3_sumOfOn_X3_valueGivenBy : GoodIn wsX3_sumOfOn wsX3_valueGivenBy := goodIn_r _ [7, 8, 9, 10, 11, 20, 21, 22, 23, 24, 25, 26, 27, 28, 29, 12, 13, 14, 15, 16, 17, 18, 19] (by decide +kernel) (by decide +kernel)
set_option maxRecDepth 20000 in
theorem gX3_sumOfOn_X3_valueGivenBy : GoodIn wsX3_sumOfOn (wsV RX3 64 RX3 yX3_valueGivenBy wsX3_valueGivenBy) := goodIn_app (goodIn_of _ (by decide +kernel)) ggX3_sumOfOn_X3_valueGivenBy
theorem dX3_sumOfOn_0 : decode cX3_sumOfOn 0 = .ok (.iconst 0, 1) := by decide +kernel
theorem dX3_sumOfOn_1 : decode cX3_sumOfOn 1 = .ok (.istore_n 1, 1) := by decide +kernel
theorem dX3_sumOfOn_2 : decode cX3_sumOfOn 2 = .ok (.iconst 0, 1) := by decide +kernel
theorem dX3_sumOfOn_3 : decode cX3_sumOfOn 3 = .ok (.istore_n 2, 1) := by decide +kernel
theorem dX3_sumOfOn_4 : decode cX3_sumOfOn 4 = .ok (.iload_n 2, 1) := by decide +kernel
theorem dX3_sumOfOn_5 : decode cX3_sumOfOn 5 = .ok (.iconst 4, 1) := by decide +kernel
theorem dX3_sumOfOn_6 : decode cX3_sumOfOn 6 = .ok (.if_icmp .ge 34, 3) := by decide +kernel
theorem dX3_sumOfOn_9 : decode cX3_sumOfOn 9 = .ok (.aload_n 0, 1) := by decide +kernel
theorem dX3_sumOfOn_10 : decode cX3_sumOfOn 10 = .ok (.getfield 21, 3) := by decide +kernel
theorem dX3_sumOfOn_13 : decode cX3_sumOfOn 13 = .ok (.iload_n 2, 1) := by decide +kernel
theorem dX3_sumOfOn_14 : decode cX3_sumOfOn 14 = .ok (.aaload, 1) := by decide +kernel
theorem dX3_sumOfOn_15 : decode cX3_sumOfOn 15 = .ok (.getfield 29, 3) := by decide +kernel
theorem dX3_sumOfOn_18 : decode cX3_sumOfOn 18 = .ok (.ifCond .eq 16, 3) := by decide +kernel
theorem dX3_sumOfOn_21 : decode cX3_sumOfOn 21 = .ok (.iload_n 1, 1) := by decide +kernel
theorem dX3_sumOfOn_22 : decode cX3_sumOfOn 22 = .ok (.aload_n 0, 1) := by decide +kernel
theorem dX3_sumOfOn_23 : decode cX3_sumOfOn 23 = .ok (.aload_n 0, 1) := by decide +kernel
theorem dX3_sumOfOn_24 : decode cX3_sumOfOn 24 = .ok (.getfield 21, 3) := by decide +kernel
theorem dX3_sumOfOn_27 : decode cX3_sumOfOn 27 = .ok (.iload_n 2, 1) := by decide +kernel
theorem dX3_sumOfOn_28 : decode cX3_sumOfOn 28 = .ok (.aaload, 1) := by decide +kernel
theorem dX3_sumOfOn_29 : decode cX3_sumOfOn 29 = .ok (.invokevirtual 64, 3) := by decide +kernel
theorem dX3_sumOfOn_32 : decode cX3_sumOfOn 32 = .ok (.iadd, 1) := by decide +kernel
theorem dX3_sumOfOn_33 : decode cX3_sumOfOn 33 = .ok (.istore_n 1, 1) := by decide +kernel
theorem dX3_sumOfOn_34 : decode cX3_sumOfOn 34 = .ok (.iinc 2 1, 3) := by decide +kernel
theorem dX3_sumOfOn_37 : decode cX3_sumOfOn 37 = .ok (.goto (-33), 3) := by decide +kernel
theorem dX3_sumOfOn_40 : decode cX3_sumOfOn 40 = .ok (.iload_n 1, 1) := by decide +kernel
theorem dX3_sumOfOn_41 : decode cX3_sumOfOn 41 = .ok (.ireturn, 1) := by decide +kernel
theorem dX3_maskOfOn_0 : decode cX3_maskOfOn 0 = .ok (.iconst 0, 1) := by decide +kernel
theorem dX3_maskOfOn_1 : decode cX3_maskOfOn 1 = .ok (.istore_n 1, 1) := by decide +kernel
theorem dX3_maskOfOn_2 : decode cX3_maskOfOn 2 = .ok (.iconst 0, 1) := by decide +kernel
theorem dX3_maskOfOn_3 : decode cX3_maskOfOn 3 = .ok (.istore_n 2, 1) := by decide +kernel
theorem dX3_maskOfOn_4 : decode cX3_maskOfOn 4 = .ok (.iload_n 2, 1) := by decide +kernel
theorem dX3_maskOfOn_5 : decode cX3_maskOfOn 5 = .ok (.iconst 4, 1) := by decide +kernel
theorem dX3_maskOfOn_6 : decode cX3_maskOfOn 6 = .ok (.if_icmp .ge 27, 3) := by decide +kernel
theorem dX3_maskOfOn_9 : decode cX3_maskOfOn 9 = .ok (.aload_n 0, 1) := by decide +kernel
theorem dX3_maskOfOn_10 : decode cX3_maskOfOn 10 = .ok (.getfield 21, 3) := by decide +kernel
theorem dX3_maskOfOn_13 : decode cX3_maskOfOn 13 = .ok (.iload_n 2, 1) := by decide +kernel
theorem dX3_maskOfOn_14 : decode cX3_maskOfOn 14 = .ok (.aaload, 1) := by decide +kernel
theorem dX3_maskOfOn_15 : decode cX3_maskOfOn 15 = .ok (.getfield 29, 3) := by decide +kernel
theorem dX3_maskOfOn_18 : decode cX3_maskOfOn 18 = .ok (.ifCond .eq 9, 3) := by decide +kernel
theorem dX3_maskOfOn_21 : decode cX3_maskOfOn 21 = .ok (.iload_n 1, 1) := by decide +kernel
theorem dX3_maskOfOn_22 : decode cX3_maskOfOn 22 = .ok (.iconst 1, 1) := by decide +kernel
theorem dX3_maskOfOn_23 : decode cX3_maskOfOn 23 = .ok (.iload_n 2, 1) := by decide +kernel
theorem dX3_maskOfOn_24 : decode cX3_maskOfOn 24 = .ok (.ishl, 1) := by decide +kernel
theorem dX3_maskOfOn_25 : decode cX3_maskOfOn 25 = .ok (.ior, 1) := by decide +kernel
theorem dX3_maskOfOn_26 : decode cX3_maskOfOn 26 = .ok (.istore_n 1, 1) := by decide +kernel
theorem dX3_maskOfOn_27 : decode cX3_maskOfOn 27 = .ok (.iinc 2 1, 3) := by decide +kernel
theorem dX3_maskOfOn_30 : decode cX3_maskOfOn 30 = .ok (.goto (-26), 3) := by decide +kernel
theorem dX3_maskOfOn_33 : decode cX3_maskOfOn 33 = .ok (.iload_n 1, 1) := by decide +kernel
theorem dX3_maskOfOn_34 : decode cX3_maskOfOn 34 = .ok (.ireturn, 1) := by decide +kernel
set_option maxRecDepth 20000 in
theorem ggX3_samplesOfARoundOfAll_X4_samplesOfARound : GoodIn wsX3_samplesOfARoundOfAll wsX4_samplesOfARound := goodIn_r _ [11, 12, 13, 22, 23, 24, 25, 26, 27, 28, 29, 30, 31] (by decide +kernel) (by decide +kernel)
set_option maxRecDepth 20000 in
theorem gX3_samplesOfARoundOfAll_X4_samplesOfARound : GoodIn wsX3_samplesOfARoundOfAll (wsV RX3 68 RX4 yX4_samplesOfARound wsX4_samplesOfARound) := goodIn_app (goodIn_of _ (by decide +kernel)) ggX3_samplesOfARoundOfAll_X4_samplesOfARound
theorem dX3_samplesOfARoundOfAll_0 : decode cX3_samplesOfARoundOfAll 0 = .ok (.iconst 1, 1) := by decide +kernel
theorem dX3_samplesOfARoundOfAll_1 : decode cX3_samplesOfARoundOfAll 1 = .ok (.istore_n 1, 1) := by decide +kernel
theorem dX3_samplesOfARoundOfAll_2 : decode cX3_samplesOfARoundOfAll 2 = .ok (.iconst 0, 1) := by decide +kernel
theorem dX3_samplesOfARoundOfAll_3 : decode cX3_samplesOfARoundOfAll 3 = .ok (.istore_n 2, 1) := by decide +kernel
theorem dX3_samplesOfARoundOfAll_4 : decode cX3_samplesOfARoundOfAll 4 = .ok (.iload_n 2, 1) := by decide +kernel
theorem dX3_samplesOfARoundOfAll_5 : decode cX3_samplesOfARoundOfAll 5 = .ok (.iconst 4, 1) := by decide +kernel
theorem dX3_samplesOfARoundOfAll_6 : decode cX3_samplesOfARoundOfAll 6 = .ok (.if_icmp .ge 35, 3) := by decide +kernel
theorem dX3_samplesOfARoundOfAll_9 : decode cX3_samplesOfARoundOfAll 9 = .ok (.aload_n 0, 1) := by decide +kernel
theorem dX3_samplesOfARoundOfAll_10 : decode cX3_samplesOfARoundOfAll 10 = .ok (.getfield 21, 3) := by decide +kernel
theorem dX3_samplesOfARoundOfAll_13 : decode cX3_samplesOfARoundOfAll 13 = .ok (.iload_n 2, 1) := by decide +kernel
theorem dX3_samplesOfARoundOfAll_14 : decode cX3_samplesOfARoundOfAll 14 = .ok (.aaload, 1) := by decide +kernel
theorem dX3_samplesOfARoundOfAll_15 : decode cX3_samplesOfARoundOfAll 15 = .ok (.getfield 29, 3) := by decide +kernel
theorem dX3_samplesOfARoundOfAll_18 : decode cX3_samplesOfARoundOfAll 18 = .ok (.ifCond .eq 17, 3) := by decide +kernel
theorem dX3_samplesOfARoundOfAll_21 : decode cX3_samplesOfARoundOfAll 21 = .ok (.iload_n 1, 1) := by decide +kernel
theorem dX3_samplesOfARoundOfAll_22 : decode cX3_samplesOfARoundOfAll 22 = .ok (.aload_n 0, 1) := by decide +kernel
theorem dX3_samplesOfARoundOfAll_23 : decode cX3_samplesOfARoundOfAll 23 = .ok (.getfield 21, 3) := by decide +kernel
theorem dX3_samplesOfARoundOfAll_26 : decode cX3_samplesOfARoundOfAll 26 = .ok (.iload_n 2, 1) := by decide +kernel
theorem dX3_samplesOfARoundOfAll_27 : decode cX3_samplesOfARoundOfAll 27 = .ok (.aaload, 1) := by decide +kernel
theorem dX3_samplesOfARoundOfAll_28 : decode cX3_samplesOfARoundOfAll 28 = .ok (.invokevirtual 68, 3) := by decide +kernel
theorem dX3_samplesOfARoundOfAll_31 : decode cX3_samplesOfARoundOfAll 31 = .ok (.invokestatic 72, 3) := by decide +kernel
theorem dX3_samplesOfARoundOfAll_34 : decode cX3_samplesOfARoundOfAll 34 = .ok (.istore_n 1, 1) := by decide +kernel
theorem dX3_samplesOfARoundOfAll_35 : decode cX3_samplesOfARoundOfAll 35 = .ok (.iinc 2 1, 3) := by decide +kernel
theorem dX3_samplesOfARoundOfAll_38 : decode cX3_samplesOfARoundOfAll 38 = .ok (.goto (-34), 3) := by decide +kernel
theorem dX3_samplesOfARoundOfAll_41 : decode cX3_samplesOfARoundOfAll 41 = .ok (.iload_n 1, 1) := by decide +kernel
theorem dX3_samplesOfARoundOfAll_42 : decode cX3_samplesOfARoundOfAll 42 = .ok (.ireturn, 1) := by decide +kernel
theorem dX3_hasNoRoomFor_0 : decode cX3_hasNoRoomFor 0 = .ok (.iload_n 1, 1) := by decide +kernel
theorem dX3_hasNoRoomFor_1 : decode cX3_hasNoRoomFor 1 = .ok (.ldc 78, 2) := by decide +kernel
theorem dX3_hasNoRoomFor_3 : decode cX3_hasNoRoomFor 3 = .ok (.aload_n 0, 1) := by decide +kernel
theorem dX3_hasNoRoomFor_4 : decode cX3_hasNoRoomFor 4 = .ok (.getfield 43, 3) := by decide +kernel
theorem dX3_hasNoRoomFor_7 : decode cX3_hasNoRoomFor 7 = .ok (.isub, 1) := by decide +kernel
theorem dX3_hasNoRoomFor_8 : decode cX3_hasNoRoomFor 8 = .ok (.if_icmp .le 7, 3) := by decide +kernel
theorem dX3_hasNoRoomFor_11 : decode cX3_hasNoRoomFor 11 = .ok (.iconst 1, 1) := by decide +kernel
theorem dX3_hasNoRoomFor_12 : decode cX3_hasNoRoomFor 12 = .ok (.goto 4, 3) := by decide +kernel
theorem dX3_hasNoRoomFor_15 : decode cX3_hasNoRoomFor 15 = .ok (.iconst 0, 1) := by decide +kernel
theorem dX3_hasNoRoomFor_16 : decode cX3_hasNoRoomFor 16 = .ok (.ireturn, 1) := by decide +kernel
set_option maxRecDepth 20000 in
theorem ggX3_makeSome_X3_hasNoRoomFor : GoodIn wsX3_makeSome wsX3_hasNoRoomFor := goodIn_r _ [5, 6, 7, 73, 74, 75, 76, 77, 78, 79, 80] (by decide +kernel) (by decide +kernel)
set_option maxRecDepth 20000 in
theorem gX3_makeSome_X3_hasNoRoomFor : GoodIn wsX3_makeSome (wsV RX3 79 RX3 yX3_hasNoRoomFor wsX3_hasNoRoomFor) := goodIn_app (goodIn_of _ (by decide +kernel)) ggX3_makeSome_X3_hasNoRoomFor
set_option maxRecDepth 20000 in
theorem ggX3_makeSome_X3_makeOne : GoodIn wsX3_makeSome wsX3_makeOne := goodIn_r _ [11, 12, 13, 14, 15, 16, 17, 18, 19, 20, 21, 22, 4, 23, 24, 25, 26, 27, 28, 29, 30, 31, 32, 33, 34, 35, 7, 36, 37, 38, 39, 40, 41, 42, 43, 44, 45, 46, 47, 48, 49, 50, 51, 52, 53, 54, 55, 56, 57, 58, 59, 60, 61, 62, 63, 64, 65, 66, 67, 68, 69, 70, 71, 72, 73, 74, 75, 76, 77, 78, 79, 80, 81, 82, 83, 84, 85, 86, 87, 88, 89, 90] (by decide +kernel) (by decide +kernel)
set_option maxRecDepth 20000 in
theorem gX3_makeSome_X3_makeOne : GoodIn wsX3_makeSome (wsV RX3 83 RX3 yX3_makeOne wsX3_makeOne) := goodIn_app (goodIn_of _ (by decide +kernel)) ggX3_makeSome_X3_makeOne
theorem dX3_makeSome_0 : decode cX3_makeSome 0 = .ok (.aload_n 0, 1) := by decide +kernel
theorem dX3_makeSome_1 : decode cX3_makeSome 1 = .ok (.iload_n 1, 1) := by decide +kernel
theorem dX3_makeSome_2 : decode cX3_makeSome 2 = .ok (.invokevirtual 79, 3) := by decide +kernel
theorem dX3_makeSome_5 : decode cX3_makeSome 5 = .ok (.ifCond .eq 5, 3) := by decide +kernel
theorem dX3_makeSome_8 : decode cX3_makeSome 8 = .ok (.iconst 0, 1) := by decide +kernel
theorem dX3_makeSome_9 : decode cX3_makeSome 9 = .ok (.ireturn, 1) := by decide +kernel
theorem dX3_makeSome_10 : decode cX3_makeSome 10 = .ok (.iconst 0, 1) := by decide +kernel
theorem dX3_makeSome_11 : decode cX3_makeSome 11 = .ok (.istore_n 2, 1) := by decide +kernel
theorem dX3_makeSome_12 : decode cX3_makeSome 12 = .ok (.iload_n 2, 1) := by decide +kernel
theorem dX3_makeSome_13 : decode cX3_makeSome 13 = .ok (.iload_n 1, 1) := by decide +kernel
theorem dX3_makeSome_14 : decode cX3_makeSome 14 = .ok (.if_icmp .ge 13, 3) := by decide +kernel
theorem dX3_makeSome_17 : decode cX3_makeSome 17 = .ok (.aload_n 0, 1) := by decide +kernel
theorem dX3_makeSome_18 : decode cX3_makeSome 18 = .ok (.invokevirtual 83, 3) := by decide +kernel
theorem dX3_makeSome_21 : decode cX3_makeSome 21 = .ok (.iinc 2 1, 3) := by decide +kernel
theorem dX3_makeSome_24 : decode cX3_makeSome 24 = .ok (.goto (-12), 3) := by decide +kernel
theorem dX3_makeSome_27 : decode cX3_makeSome 27 = .ok (.iconst 1, 1) := by decide +kernel
theorem dX3_makeSome_28 : decode cX3_makeSome 28 = .ok (.ireturn, 1) := by decide +kernel
set_option maxRecDepth 20000 in
theorem ggX3_makeOne_X3_sumOfOn : GoodIn wsX3_makeOne wsX3_sumOfOn := goodIn_r _ [13, 7, 8, 14, 15, 16, 12, 17, 18, 19, 20, 21, 64, 65, 66, 67, 68, 69, 70, 71, 72, 73, 74, 75, 76, 77, 78, 79, 80, 81] (by decide +kernel) (by decide +kernel)
set_option maxRecDepth 20000 in
theorem gX3_makeOne_X3_sumOfOn : GoodIn wsX3_makeOne (wsV RX3 86 RX3 yX3_sumOfOn wsX3_sumOfOn) := goodIn_app (goodIn_of _ (by decide +kernel)) ggX3_makeOne_X3_sumOfOn
set_option maxRecDepth 20000 in
theorem ggX3_makeOne_X3_keepMixture : GoodIn wsX3_makeOne wsX3_keepMixture := goodIn_r _ [25, 26, 27, 28, 29, 30, 31, 32, 33, 12, 34, 35, 36, 37, 38, 64, 65, 66, 67, 68, 69, 70, 71] (by decide +kernel) (by decide +kernel)
set_option maxRecDepth 20000 in
theorem gX3_makeOne_X3_keepMixture : GoodIn wsX3_makeOne (wsV RX3 92 RX3 yX3_keepMixture wsX3_keepMixture) := goodIn_app (goodIn_of _ (by decide +kernel)) ggX3_makeOne_X3_keepMixture
set_option maxRecDepth 20000 in
theorem ggX3_makeOne_X4_goOn : GoodIn wsX3_makeOne wsX4_goOn := goodIn_r _ [43, 44, 45, 46, 47, 48, 49, 50, 42, 51, 52, 53, 54, 55, 56, 57, 58, 59, 60, 61, 62, 63, 72, 73, 74, 75, 76, 77, 78, 79, 80, 81] (by decide +kernel) (by decide +kernel)
set_option maxRecDepth 20000 in
theorem gX3_makeOne_X4_goOn : GoodIn wsX3_makeOne (wsV RX3 96 RX4 yX4_goOn wsX4_goOn) := goodIn_app (goodIn_of _ (by decide +kernel)) ggX3_makeOne_X4_goOn
theorem dX3_makeOne_0 : decode cX3_makeOne 0 = .ok (.aload_n 0, 1) := by decide +kernel
theorem dX3_makeOne_1 : decode cX3_makeOne 1 = .ok (.invokevirtual 86, 3) := by decide +kernel
theorem dX3_makeOne_4 : decode cX3_makeOne 4 = .ok (.istore_n 1, 1) := by decide +kernel
theorem dX3_makeOne_5 : decode cX3_makeOne 5 = .ok (.iload_n 1, 1) := by decide +kernel
theorem dX3_makeOne_6 : decode cX3_makeOne 6 = .ok (.aload_n 0, 1) := by decide +kernel
theorem dX3_makeOne_7 : decode cX3_makeOne 7 = .ok (.getfield 9, 3) := by decide +kernel
theorem dX3_makeOne_10 : decode cX3_makeOne 10 = .ok (.if_icmp .le 13, 3) := by decide +kernel
theorem dX3_makeOne_13 : decode cX3_makeOne 13 = .ok (.aload_n 0, 1) := by decide +kernel
theorem dX3_makeOne_14 : decode cX3_makeOne 14 = .ok (.dup, 1) := by decide +kernel
theorem dX3_makeOne_15 : decode cX3_makeOne 15 = .ok (.getfield 46, 3) := by decide +kernel
theorem dX3_makeOne_18 : decode cX3_makeOne 18 = .ok (.iconst 1, 1) := by decide +kernel
theorem dX3_makeOne_19 : decode cX3_makeOne 19 = .ok (.iadd, 1) := by decide +kernel
theorem dX3_makeOne_20 : decode cX3_makeOne 20 = .ok (.putfield 46, 3) := by decide +kernel
theorem dX3_makeOne_23 : decode cX3_makeOne 23 = .ok (.aload_n 0, 1) := by decide +kernel
theorem dX3_makeOne_24 : decode cX3_makeOne 24 = .ok (.iload_n 1, 1) := by decide +kernel
theorem dX3_makeOne_25 : decode cX3_makeOne 25 = .ok (.aload_n 0, 1) := by decide +kernel
theorem dX3_makeOne_26 : decode cX3_makeOne 26 = .ok (.getfield 9, 3) := by decide +kernel
theorem dX3_makeOne_29 : decode cX3_makeOne 29 = .ok (.invokestatic 89, 3) := by decide +kernel
theorem dX3_makeOne_32 : decode cX3_makeOne 32 = .ok (.invokevirtual 92, 3) := by decide +kernel
theorem dX3_makeOne_35 : decode cX3_makeOne 35 = .ok (.iconst 0, 1) := by decide +kernel
theorem dX3_makeOne_36 : decode cX3_makeOne 36 = .ok (.istore_n 2, 1) := by decide +kernel
theorem dX3_makeOne_37 : decode cX3_makeOne 37 = .ok (.iload_n 2, 1) := by decide +kernel
theorem dX3_makeOne_38 : decode cX3_makeOne 38 = .ok (.iconst 4, 1) := by decide +kernel
theorem dX3_makeOne_39 : decode cX3_makeOne 39 = .ok (.if_icmp .ge 30, 3) := by decide +kernel
theorem dX3_makeOne_42 : decode cX3_makeOne 42 = .ok (.aload_n 0, 1) := by decide +kernel
theorem dX3_makeOne_43 : decode cX3_makeOne 43 = .ok (.getfield 21, 3) := by decide +kernel
theorem dX3_makeOne_46 : decode cX3_makeOne 46 = .ok (.iload_n 2, 1) := by decide +kernel
theorem dX3_makeOne_47 : decode cX3_makeOne 47 = .ok (.aaload, 1) := by decide +kernel
theorem dX3_makeOne_48 : decode cX3_makeOne 48 = .ok (.getfield 29, 3) := by decide +kernel
theorem dX3_makeOne_51 : decode cX3_makeOne 51 = .ok (.ifCond .eq 12, 3) := by decide +kernel
theorem dX3_makeOne_54 : decode cX3_makeOne 54 = .ok (.aload_n 0, 1) := by decide +kernel
theorem dX3_makeOne_55 : decode cX3_makeOne 55 = .ok (.getfield 21, 3) := by decide +kernel
theorem dX3_makeOne_58 : decode cX3_makeOne 58 = .ok (.iload_n 2, 1) := by decide +kernel
theorem dX3_makeOne_59 : decode cX3_makeOne 59 = .ok (.aaload, 1) := by decide +kernel
theorem dX3_makeOne_60 : decode cX3_makeOne 60 = .ok (.invokevirtual 96, 3) := by decide +kernel
theorem dX3_makeOne_63 : decode cX3_makeOne 63 = .ok (.iinc 2 1, 3) := by decide +kernel
theorem dX3_makeOne_66 : decode cX3_makeOne 66 = .ok (.goto (-29), 3) := by decide +kernel
theorem dX3_makeOne_69 : decode cX3_makeOne 69 = .ok (.return_, 1) := by decide +kernel
set_option maxRecDepth 20000 in
theorem ggX3_keepMixture_X3_mixtureAgo : GoodIn wsX3_keepMixture wsX3_mixtureAgo := goodIn_r _ [10, 5, 1, 11, 12, 13, 14, 15, 16, 17, 18, 19, 20, 21, 22] (by decide +kernel) (by decide +kernel)
set_option maxRecDepth 20000 in
theorem gX3_keepMixture_X3_mixtureAgo : GoodIn wsX3_keepMixture (wsV RX3 99 RX3 yX3_mixtureAgo wsX3_mixtureAgo) := goodIn_app (goodIn_of _ (by decide +kernel)) ggX3_keepMixture_X3_mixtureAgo
set_option maxRecDepth 20000 in
theorem ggX3_keepMixture_J9_floorMod_7cf53 : GoodIn wsX3_keepMixture wsJ9_floorMod_7cf53 := goodIn_r _ [14] (by decide +kernel) (by decide +kernel)
set_option maxRecDepth 20000 in
theorem gX3_keepMixture_J9_floorMod_7cf53 : GoodIn wsX3_keepMixture (va_wsS RX3 104 yJ9_floorMod_7cf53 wsJ9_floorMod_7cf53) := goodIn_app (goodIn_of _ (by decide +kernel)) ggX3_keepMixture_J9_floorMod_7cf53
theorem dX3_keepMixture_0 : decode cX3_keepMixture 0 = .ok (.aload_n 0, 1) := by decide +kernel
theorem dX3_keepMixture_1 : decode cX3_keepMixture 1 = .ok (.getfield 43, 3) := by decide +kernel
theorem dX3_keepMixture_4 : decode cX3_keepMixture 4 = .ok (.ifCond .le 22, 3) := by decide +kernel
theorem dX3_keepMixture_7 : decode cX3_keepMixture 7 = .ok (.iload_n 1, 1) := by decide +kernel
theorem dX3_keepMixture_8 : decode cX3_keepMixture 8 = .ok (.aload_n 0, 1) := by decide +kernel
theorem dX3_keepMixture_9 : decode cX3_keepMixture 9 = .ok (.iconst 0, 1) := by decide +kernel
theorem dX3_keepMixture_10 : decode cX3_keepMixture 10 = .ok (.invokevirtual 99, 3) := by decide +kernel
theorem dX3_keepMixture_13 : decode cX3_keepMixture 13 = .ok (.if_icmp .le 13, 3) := by decide +kernel
theorem dX3_keepMixture_16 : decode cX3_keepMixture 16 = .ok (.aload_n 0, 1) := by decide +kernel
theorem dX3_keepMixture_17 : decode cX3_keepMixture 17 = .ok (.dup, 1) := by decide +kernel
theorem dX3_keepMixture_18 : decode cX3_keepMixture 18 = .ok (.getfield 52, 3) := by decide +kernel
theorem dX3_keepMixture_21 : decode cX3_keepMixture 21 = .ok (.iconst 1, 1) := by decide +kernel
theorem dX3_keepMixture_22 : decode cX3_keepMixture 22 = .ok (.iadd, 1) := by decide +kernel
theorem dX3_keepMixture_23 : decode cX3_keepMixture 23 = .ok (.putfield 52, 3) := by decide +kernel
theorem dX3_keepMixture_26 : decode cX3_keepMixture 26 = .ok (.aload_n 0, 1) := by decide +kernel
theorem dX3_keepMixture_27 : decode cX3_keepMixture 27 = .ok (.aload_n 0, 1) := by decide +kernel
theorem dX3_keepMixture_28 : decode cX3_keepMixture 28 = .ok (.getfield 49, 3) := by decide +kernel
theorem dX3_keepMixture_31 : decode cX3_keepMixture 31 = .ok (.iload_n 1, 1) := by decide +kernel
theorem dX3_keepMixture_32 : decode cX3_keepMixture 32 = .ok (.iadd, 1) := by decide +kernel
theorem dX3_keepMixture_33 : decode cX3_keepMixture 33 = .ok (.ldc 103, 2) := by decide +kernel
theorem dX3_keepMixture_35 : decode cX3_keepMixture 35 = .ok (.irem, 1) := by decide +kernel
theorem dX3_keepMixture_36 : decode cX3_keepMixture 36 = .ok (.putfield 49, 3) := by decide +kernel
theorem dX3_keepMixture_39 : decode cX3_keepMixture 39 = .ok (.aload_n 0, 1) := by decide +kernel
theorem dX3_keepMixture_40 : decode cX3_keepMixture 40 = .ok (.getfield 25, 3) := by decide +kernel
theorem dX3_keepMixture_43 : decode cX3_keepMixture 43 = .ok (.aload_n 0, 1) := by decide +kernel
theorem dX3_keepMixture_44 : decode cX3_keepMixture 44 = .ok (.getfield 43, 3) := by decide +kernel
theorem dX3_keepMixture_47 : decode cX3_keepMixture 47 = .ok (.bipush 32, 2) := by decide +kernel
theorem dX3_keepMixture_49 : decode cX3_keepMixture 49 = .ok (.invokestatic 104, 3) := by decide +kernel
theorem dX3_keepMixture_52 : decode cX3_keepMixture 52 = .ok (.iload_n 1, 1) := by decide +kernel
theorem dX3_keepMixture_53 : decode cX3_keepMixture 53 = .ok (.iastore, 1) := by decide +kernel
theorem dX3_keepMixture_54 : decode cX3_keepMixture 54 = .ok (.aload_n 0, 1) := by decide +kernel
theorem dX3_keepMixture_55 : decode cX3_keepMixture 55 = .ok (.dup, 1) := by decide +kernel
theorem dX3_keepMixture_56 : decode cX3_keepMixture 56 = .ok (.getfield 43, 3) := by decide +kernel
theorem dX3_keepMixture_59 : decode cX3_keepMixture 59 = .ok (.iconst 1, 1) := by decide +kernel
theorem dX3_keepMixture_60 : decode cX3_keepMixture 60 = .ok (.iadd, 1) := by decide +kernel
theorem dX3_keepMixture_61 : decode cX3_keepMixture 61 = .ok (.putfield 43, 3) := by decide +kernel
theorem dX3_keepMixture_64 : decode cX3_keepMixture 64 = .ok (.return_, 1) := by decide +kernel
set_option maxRecDepth 20000 in
theorem ggX3_mixtureAgo_J9_floorMod_7cf53 : GoodIn wsX3_mixtureAgo wsJ9_floorMod_7cf53 := goodIn_r _ [6] (by decide +kernel) (by decide +kernel)
set_option maxRecDepth 20000 in
theorem gX3_mixtureAgo_J9_floorMod_7cf53 : GoodIn wsX3_mixtureAgo (va_wsS RX3 104 yJ9_floorMod_7cf53 wsJ9_floorMod_7cf53) := goodIn_app (goodIn_of _ (by decide +kernel)) ggX3_mixtureAgo_J9_floorMod_7cf53
theorem dX3_mixtureAgo_0 : decode cX3_mixtureAgo 0 = .ok (.aload_n 0, 1) := by decide +kernel
theorem dX3_mixtureAgo_1 : decode cX3_mixtureAgo 1 = .ok (.getfield 25, 3) := by decide +kernel
theorem dX3_mixtureAgo_4 : decode cX3_mixtureAgo 4 = .ok (.aload_n 0, 1) := by decide +kernel
theorem dX3_mixtureAgo_5 : decode cX3_mixtureAgo 5 = .ok (.getfield 43, 3) := by decide +kernel
theorem dX3_mixtureAgo_8 : decode cX3_mixtureAgo 8 = .ok (.iconst 1, 1) := by decide +kernel
theorem dX3_mixtureAgo_9 : decode cX3_mixtureAgo 9 = .ok (.isub, 1) := by decide +kernel
theorem dX3_mixtureAgo_10 : decode cX3_mixtureAgo 10 = .ok (.iload_n 1, 1) := by decide +kernel
theorem dX3_mixtureAgo_11 : decode cX3_mixtureAgo 11 = .ok (.isub, 1) := by decide +kernel
theorem dX3_mixtureAgo_12 : decode cX3_mixtureAgo 12 = .ok (.bipush 32, 2) := by decide +kernel
theorem dX3_mixtureAgo_14 : decode cX3_mixtureAgo 14 = .ok (.invokestatic 104, 3) := by decide +kernel
theorem dX3_mixtureAgo_17 : decode cX3_mixtureAgo 17 = .ok (.iaload, 1) := by decide +kernel
theorem dX3_mixtureAgo_18 : decode cX3_mixtureAgo 18 = .ok (.ireturn, 1) := by decide +kernel
theorem dX4_init_0 : decode cX4_init 0 = .ok (.aload_n 0, 1) := by decide +kernel
theorem dX4_init_1 : decode cX4_init 1 = .ok (.invokespecial 3, 3) := by decide +kernel
theorem dX4_init_4 : decode cX4_init 4 = .ok (.aload_n 0, 1) := by decide +kernel
theorem dX4_init_5 : decode cX4_init 5 = .ok (.sipush 1024, 3) := by decide +kernel
theorem dX4_init_8 : decode cX4_init 8 = .ok (.putfield 9, 3) := by decide +kernel
theorem dX4_init_11 : decode cX4_init 11 = .ok (.aload_n 0, 1) := by decide +kernel
theorem dX4_init_12 : decode cX4_init 12 = .ok (.bipush 8, 2) := by decide +kernel
theorem dX4_init_14 : decode cX4_init 14 = .ok (.putfield 15, 3) := by decide +kernel
theorem dX4_init_17 : decode cX4_init 17 = .ok (.aload_n 0, 1) := by decide +kernel
theorem dX4_init_18 : decode cX4_init 18 = .ok (.iconst 4, 1) := by decide +kernel
theorem dX4_init_19 : decode cX4_init 19 = .ok (.newarray .int, 2) := by decide +kernel
theorem dX4_init_21 : decode cX4_init 21 = .ok (.putfield 18, 3) := by decide +kernel
theorem dX4_init_24 : decode cX4_init 24 = .ok (.aload_n 0, 1) := by decide +kernel
theorem dX4_init_25 : decode cX4_init 25 = .ok (.iconst 4, 1) := by decide +kernel
theorem dX4_init_26 : decode cX4_init 26 = .ok (.newarray .int, 2) := by decide +kernel
theorem dX4_init_28 : decode cX4_init 28 = .ok (.putfield 22, 3) := by decide +kernel
theorem dX4_init_31 : decode cX4_init 31 = .ok (.return_, 1) := by decide +kernel
theorem dX4_takeOver_0 : decode cX4_takeOver 0 = .ok (.aload_n 0, 1) := by decide +kernel
theorem dX4_takeOver_1 : decode cX4_takeOver 1 = .ok (.aload_n 1, 1) := by decide +kernel
theorem dX4_takeOver_2 : decode cX4_takeOver 2 = .ok (.getfield 25, 3) := by decide +kernel
theorem dX4_takeOver_5 : decode cX4_takeOver 5 = .ok (.putfield 25, 3) := by decide +kernel
theorem dX4_takeOver_8 : decode cX4_takeOver 8 = .ok (.aload_n 0, 1) := by decide +kernel
theorem dX4_takeOver_9 : decode cX4_takeOver 9 = .ok (.aload_n 1, 1) := by decide +kernel
theorem dX4_takeOver_10 : decode cX4_takeOver 10 = .ok (.getfield 9, 3) := by decide +kernel
theorem dX4_takeOver_13 : decode cX4_takeOver 13 = .ok (.putfield 9, 3) := by decide +kernel
theorem dX4_takeOver_16 : decode cX4_takeOver 16 = .ok (.aload_n 0, 1) := by decide +kernel
theorem dX4_takeOver_17 : decode cX4_takeOver 17 = .ok (.aload_n 1, 1) := by decide +kernel
theorem dX4_takeOver_18 : decode cX4_takeOver 18 = .ok (.getfield 28, 3) := by decide +kernel
theorem dX4_takeOver_21 : decode cX4_takeOver 21 = .ok (.putfield 28, 3) := by decide +kernel
theorem dX4_takeOver_24 : decode cX4_takeOver 24 = .ok (.aload_n 0, 1) := by decide +kernel
theorem dX4_takeOver_25 : decode cX4_takeOver 25 = .ok (.aload_n 1, 1) := by decide +kernel
theorem dX4_takeOver_26 : decode cX4_takeOver 26 = .ok (.getfield 15, 3) := by decide +kernel
theorem dX4_takeOver_29 : decode cX4_takeOver 29 = .ok (.putfield 15, 3) := by decide +kernel
theorem dX4_takeOver_32 : decode cX4_takeOver 32 = .ok (.aload_n 0, 1) := by decide +kernel
theorem dX4_takeOver_33 : decode cX4_takeOver 33 = .ok (.aload_n 1, 1) := by decide +kernel
theorem dX4_takeOver_34 : decode cX4_takeOver 34 = .ok (.getfield 31, 3) := by decide +kernel
theorem dX4_takeOver_37 : decode cX4_takeOver 37 = .ok (.putfield 31, 3) := by decide +kernel
theorem dX4_takeOver_40 : decode cX4_takeOver 40 = .ok (.aload_n 0, 1) := by decide +kernel
theorem dX4_takeOver_41 : decode cX4_takeOver 41 = .ok (.aload_n 1, 1) := by decide +kernel
theorem dX4_takeOver_42 : decode cX4_takeOver 42 = .ok (.getfield 35, 3) := by decide +kernel
theorem dX4_takeOver_45 : decode cX4_takeOver 45 = .ok (.putfield 35, 3) := by decide +kernel
theorem dX4_takeOver_48 : decode cX4_takeOver 48 = .ok (.aload_n 1, 1) := by decide +kernel
theorem dX4_takeOver_49 : decode cX4_takeOver 49 = .ok (.getfield 18, 3) := by decide +kernel
theorem dX4_takeOver_52 : decode cX4_takeOver 52 = .ok (.iconst 0, 1) := by decide +kernel
theorem dX4_takeOver_53 : decode cX4_takeOver 53 = .ok (.aload_n 0, 1) := by decide +kernel
theorem dX4_takeOver_54 : decode cX4_takeOver 54 = .ok (.getfield 18, 3) := by decide +kernel
theorem dX4_takeOver_57 : decode cX4_takeOver 57 = .ok (.iconst 0, 1) := by decide +kernel
theorem dX4_takeOver_58 : decode cX4_takeOver 58 = .ok (.iconst 4, 1) := by decide +kernel
theorem dX4_takeOver_59 : decode cX4_takeOver 59 = .ok (.invokestatic 38, 3) := by decide +kernel
theorem dX4_takeOver_62 : decode cX4_takeOver 62 = .ok (.aload_n 1, 1) := by decide +kernel
theorem dX4_takeOver_63 : decode cX4_takeOver 63 = .ok (.getfield 22, 3) := by decide +kernel
theorem dX4_takeOver_66 : decode cX4_takeOver 66 = .ok (.iconst 0, 1) := by decide +kernel
theorem dX4_takeOver_67 : decode cX4_takeOver 67 = .ok (.aload_n 0, 1) := by decide +kernel
theorem dX4_takeOver_68 : decode cX4_takeOver 68 = .ok (.getfield 22, 3) := by decide +kernel
theorem dX4_takeOver_71 : decode cX4_takeOver 71 = .ok (.iconst 0, 1) := by decide +kernel
theorem dX4_takeOver_72 : decode cX4_takeOver 72 = .ok (.iconst 4, 1) := by decide +kernel
theorem dX4_takeOver_73 : decode cX4_takeOver 73 = .ok (.invokestatic 38, 3) := by decide +kernel
theorem dX4_takeOver_76 : decode cX4_takeOver 76 = .ok (.aload_n 0, 1) := by decide +kernel
theorem dX4_takeOver_77 : decode cX4_takeOver 77 = .ok (.aload_n 1, 1) := by decide +kernel
theorem dX4_takeOver_78 : decode cX4_takeOver 78 = .ok (.getfield 44, 3) := by decide +kernel
theorem dX4_takeOver_81 : decode cX4_takeOver 81 = .ok (.putfield 44, 3) := by decide +kernel
theorem dX4_takeOver_84 : decode cX4_takeOver 84 = .ok (.aload_n 0, 1) := by decide +kernel
theorem dX4_takeOver_85 : decode cX4_takeOver 85 = .ok (.aload_n 1, 1) := by decide +kernel
theorem dX4_takeOver_86 : decode cX4_takeOver 86 = .ok (.getfield 47, 3) := by decide +kernel
theorem dX4_takeOver_89 : decode cX4_takeOver 89 = .ok (.putfield 47, 3) := by decide +kernel
theorem dX4_takeOver_92 : decode cX4_takeOver 92 = .ok (.return_, 1) := by decide +kernel
theorem dX4_changeStep_0 : decode cX4_changeStep 0 = .ok (.aload_n 0, 1) := by decide +kernel
theorem dX4_changeStep_1 : decode cX4_changeStep 1 = .ok (.iload_n 1, 1) := by decide +kernel
theorem dX4_changeStep_2 : decode cX4_changeStep 2 = .ok (.putfield 9, 3) := by decide +kernel
theorem dX4_changeStep_5 : decode cX4_changeStep 5 = .ok (.aload_n 0, 1) := by decide +kernel
theorem dX4_changeStep_6 : decode cX4_changeStep 6 = .ok (.iconst 0, 1) := by decide +kernel
theorem dX4_changeStep_7 : decode cX4_changeStep 7 = .ok (.putfield 35, 3) := by decide +kernel
theorem dX4_changeStep_10 : decode cX4_changeStep 10 = .ok (.return_, 1) := by decide +kernel
set_option maxRecDepth 20000 in
theorem ggX4_addSweep_X4_beginSweep : GoodIn wsX4_addSweep wsX4_beginSweep := goodIn_r _ [8, 9, 10, 11, 12, 13, 14, 15, 16, 17, 18, 19, 20, 21] (by decide +kernel) (by decide +kernel)
set_option maxRecDepth 20000 in
theorem gX4_addSweep_X4_beginSweep : GoodIn wsX4_addSweep (wsV RX4 50 RX4 yX4_beginSweep wsX4_beginSweep) := goodIn_app (goodIn_of _ (by decide +kernel)) ggX4_addSweep_X4_beginSweep
theorem dX4_addSweep_0 : decode cX4_addSweep 0 = .ok (.aload_n 0, 1) := by decide +kernel
theorem dX4_addSweep_1 : decode cX4_addSweep 1 = .ok (.getfield 35, 3) := by decide +kernel
theorem dX4_addSweep_4 : decode cX4_addSweep 4 = .ok (.ifCond .lt 11, 3) := by decide +kernel
theorem dX4_addSweep_7 : decode cX4_addSweep 7 = .ok (.aload_n 0, 1) := by decide +kernel
theorem dX4_addSweep_8 : decode cX4_addSweep 8 = .ok (.getfield 35, 3) := by decide +kernel
theorem dX4_addSweep_11 : decode cX4_addSweep 11 = .ok (.iconst 4, 1) := by decide +kernel
theorem dX4_addSweep_12 : decode cX4_addSweep 12 = .ok (.if_icmp .lt 5, 3) := by decide +kernel
theorem dX4_addSweep_15 : decode cX4_addSweep 15 = .ok (.iconst 0, 1) := by decide +kernel
theorem dX4_addSweep_16 : decode cX4_addSweep 16 = .ok (.ireturn, 1) := by decide +kernel
theorem dX4_addSweep_17 : decode cX4_addSweep 17 = .ok (.aload_n 0, 1) := by decide +kernel
theorem dX4_addSweep_18 : decode cX4_addSweep 18 = .ok (.getfield 35, 3) := by decide +kernel
theorem dX4_addSweep_21 : decode cX4_addSweep 21 = .ok (.ifCond .ne 7, 3) := by decide +kernel
theorem dX4_addSweep_24 : decode cX4_addSweep 24 = .ok (.aload_n 0, 1) := by decide +kernel
theorem dX4_addSweep_25 : decode cX4_addSweep 25 = .ok (.invokevirtual 50, 3) := by decide +kernel
theorem dX4_addSweep_28 : decode cX4_addSweep 28 = .ok (.aload_n 0, 1) := by decide +kernel
theorem dX4_addSweep_29 : decode cX4_addSweep 29 = .ok (.getfield 18, 3) := by decide +kernel
theorem dX4_addSweep_32 : decode cX4_addSweep 32 = .ok (.aload_n 0, 1) := by decide +kernel
theorem dX4_addSweep_33 : decode cX4_addSweep 33 = .ok (.getfield 35, 3) := by decide +kernel
theorem dX4_addSweep_36 : decode cX4_addSweep 36 = .ok (.iload_n 1, 1) := by decide +kernel
theorem dX4_addSweep_37 : decode cX4_addSweep 37 = .ok (.iastore, 1) := by decide +kernel
theorem dX4_addSweep_38 : decode cX4_addSweep 38 = .ok (.aload_n 0, 1) := by decide +kernel
theorem dX4_addSweep_39 : decode cX4_addSweep 39 = .ok (.getfield 22, 3) := by decide +kernel
theorem dX4_addSweep_42 : decode cX4_addSweep 42 = .ok (.aload_n 0, 1) := by decide +kernel
theorem dX4_addSweep_43 : decode cX4_addSweep 43 = .ok (.getfield 35, 3) := by decide +kernel
theorem dX4_addSweep_46 : decode cX4_addSweep 46 = .ok (.iload_n 2, 1) := by decide +kernel
theorem dX4_addSweep_47 : decode cX4_addSweep 47 = .ok (.iastore, 1) := by decide +kernel
theorem dX4_addSweep_48 : decode cX4_addSweep 48 = .ok (.aload_n 0, 1) := by decide +kernel
theorem dX4_addSweep_49 : decode cX4_addSweep 49 = .ok (.dup, 1) := by decide +kernel
theorem dX4_addSweep_50 : decode cX4_addSweep 50 = .ok (.getfield 35, 3) := by decide +kernel
theorem dX4_addSweep_53 : decode cX4_addSweep 53 = .ok (.iconst 1, 1) := by decide +kernel
theorem dX4_addSweep_54 : decode cX4_addSweep 54 = .ok (.iadd, 1) := by decide +kernel
theorem dX4_addSweep_55 : decode cX4_addSweep 55 = .ok (.putfield 35, 3) := by decide +kernel
theorem dX4_addSweep_58 : decode cX4_addSweep 58 = .ok (.iconst 1, 1) := by decide +kernel
theorem dX4_addSweep_59 : decode cX4_addSweep 59 = .ok (.ireturn, 1) := by decide +kernel
theorem dX4_beginSweep_0 : decode cX4_beginSweep 0 = .ok (.aload_n 0, 1) := by decide +kernel
theorem dX4_beginSweep_1 : decode cX4_beginSweep 1 = .ok (.aload_n 0, 1) := by decide +kernel
theorem dX4_beginSweep_2 : decode cX4_beginSweep 2 = .ok (.getfield 9, 3) := by decide +kernel
theorem dX4_beginSweep_5 : decode cX4_beginSweep 5 = .ok (.putfield 44, 3) := by decide +kernel
theorem dX4_beginSweep_8 : decode cX4_beginSweep 8 = .ok (.aload_n 0, 1) := by decide +kernel
theorem dX4_beginSweep_9 : decode cX4_beginSweep 9 = .ok (.iconst 0, 1) := by decide +kernel
theorem dX4_beginSweep_10 : decode cX4_beginSweep 10 = .ok (.putfield 47, 3) := by decide +kernel
theorem dX4_beginSweep_13 : decode cX4_beginSweep 13 = .ok (.return_, 1) := by decide +kernel
set_option maxRecDepth 20000 in
theorem ggX4_goOn_X4_goOnSweeping : GoodIn wsX4_goOn wsX4_goOnSweeping := goodIn_r _ [9, 10, 11, 12, 13, 2, 14, 15, 16, 8, 17, 4, 18, 19, 20, 21, 22, 23, 24, 25, 26, 27, 28, 29, 30, 31] (by decide +kernel) (by decide +kernel)
set_option maxRecDepth 20000 in
theorem gX4_goOn_X4_goOnSweeping : GoodIn wsX4_goOn (wsV RX4 54 RX4 yX4_goOnSweeping wsX4_goOnSweeping) := goodIn_app (goodIn_of _ (by decide +kernel)) ggX4_goOn_X4_goOnSweeping
theorem dX4_goOn_0 : decode cX4_goOn 0 = .ok (.aload_n 0, 1) := by decide +kernel
theorem dX4_goOn_1 : decode cX4_goOn 1 = .ok (.aload_n 0, 1) := by decide +kernel
theorem dX4_goOn_2 : decode cX4_goOn 2 = .ok (.getfield 25, 3) := by decide +kernel
theorem dX4_goOn_5 : decode cX4_goOn 5 = .ok (.aload_n 0, 1) := by decide +kernel
theorem dX4_goOn_6 : decode cX4_goOn 6 = .ok (.getfield 9, 3) := by decide +kernel
theorem dX4_goOn_9 : decode cX4_goOn 9 = .ok (.iadd, 1) := by decide +kernel
theorem dX4_goOn_10 : decode cX4_goOn 10 = .ok (.ldc 53, 2) := by decide +kernel
theorem dX4_goOn_12 : decode cX4_goOn 12 = .ok (.irem, 1) := by decide +kernel
theorem dX4_goOn_13 : decode cX4_goOn 13 = .ok (.putfield 25, 3) := by decide +kernel
theorem dX4_goOn_16 : decode cX4_goOn 16 = .ok (.aload_n 0, 1) := by decide +kernel
theorem dX4_goOn_17 : decode cX4_goOn 17 = .ok (.getfield 35, 3) := by decide +kernel
theorem dX4_goOn_20 : decode cX4_goOn 20 = .ok (.ifCond .le 7, 3) := by decide +kernel
theorem dX4_goOn_23 : decode cX4_goOn 23 = .ok (.aload_n 0, 1) := by decide +kernel
theorem dX4_goOn_24 : decode cX4_goOn 24 = .ok (.invokevirtual 54, 3) := by decide +kernel
theorem dX4_goOn_27 : decode cX4_goOn 27 = .ok (.return_, 1) := by decide +kernel
set_option maxRecDepth 20000 in
theorem ggX4_goOnSweeping_X4_dropFirstSweep : GoodIn wsX4_goOnSweeping wsX4_dropFirstSweep := goodIn_r _ [10, 11, 4, 1, 16, 17, 18, 19, 20, 21, 22, 23, 24, 25] (by decide +kernel) (by decide +kernel)
set_option maxRecDepth 20000 in
theorem gX4_goOnSweeping_X4_dropFirstSweep : GoodIn wsX4_goOnSweeping (wsV RX4 57 RX4 yX4_dropFirstSweep wsX4_dropFirstSweep) := goodIn_app (goodIn_of _ (by decide +kernel)) ggX4_goOnSweeping_X4_dropFirstSweep
set_option maxRecDepth 20000 in
theorem ggX4_goOnSweeping_X4_beginSweep : GoodIn wsX4_goOnSweeping wsX4_beginSweep := goodIn_r _ [15, 5, 3, 2, 16, 17, 18, 19, 20, 21, 22, 23, 24, 25] (by decide +kernel) (by decide +kernel)
set_option maxRecDepth 20000 in
theorem gX4_goOnSweeping_X4_beginSweep : GoodIn wsX4_goOnSweeping (wsV RX4 50 RX4 yX4_beginSweep wsX4_beginSweep) := goodIn_app (goodIn_of _ (by decide +kernel)) ggX4_goOnSweeping_X4_beginSweep
theorem dX4_goOnSweeping_0 : decode cX4_goOnSweeping 0 = .ok (.aload_n 0, 1) := by decide +kernel
theorem dX4_goOnSweeping_1 : decode cX4_goOnSweeping 1 = .ok (.getfield 22, 3) := by decide +kernel
theorem dX4_goOnSweeping_4 : decode cX4_goOnSweeping 4 = .ok (.iconst 0, 1) := by decide +kernel
theorem dX4_goOnSweeping_5 : decode cX4_goOnSweeping 5 = .ok (.iaload, 1) := by decide +kernel
theorem dX4_goOnSweeping_6 : decode cX4_goOnSweeping 6 = .ok (.istore_n 1, 1) := by decide +kernel
theorem dX4_goOnSweeping_7 : decode cX4_goOnSweeping 7 = .ok (.iload_n 1, 1) := by decide +kernel
theorem dX4_goOnSweeping_8 : decode cX4_goOnSweeping 8 = .ok (.ifCond .gt 4, 3) := by decide +kernel
theorem dX4_goOnSweeping_11 : decode cX4_goOnSweeping 11 = .ok (.return_, 1) := by decide +kernel
theorem dX4_goOnSweeping_12 : decode cX4_goOnSweeping 12 = .ok (.aload_n 0, 1) := by decide +kernel
theorem dX4_goOnSweeping_13 : decode cX4_goOnSweeping 13 = .ok (.dup, 1) := by decide +kernel
theorem dX4_goOnSweeping_14 : decode cX4_goOnSweeping 14 = .ok (.getfield 47, 3) := by decide +kernel
theorem dX4_goOnSweeping_17 : decode cX4_goOnSweeping 17 = .ok (.iconst 1, 1) := by decide +kernel
theorem dX4_goOnSweeping_18 : decode cX4_goOnSweeping 18 = .ok (.iadd, 1) := by decide +kernel
theorem dX4_goOnSweeping_19 : decode cX4_goOnSweeping 19 = .ok (.putfield 47, 3) := by decide +kernel
theorem dX4_goOnSweeping_22 : decode cX4_goOnSweeping 22 = .ok (.aload_n 0, 1) := by decide +kernel
theorem dX4_goOnSweeping_23 : decode cX4_goOnSweeping 23 = .ok (.aload_n 0, 1) := by decide +kernel
theorem dX4_goOnSweeping_24 : decode cX4_goOnSweeping 24 = .ok (.getfield 44, 3) := by decide +kernel
theorem dX4_goOnSweeping_27 : decode cX4_goOnSweeping 27 = .ok (.aload_n 0, 1) := by decide +kernel
theorem dX4_goOnSweeping_28 : decode cX4_goOnSweeping 28 = .ok (.getfield 18, 3) := by decide +kernel
theorem dX4_goOnSweeping_31 : decode cX4_goOnSweeping 31 = .ok (.iconst 0, 1) := by decide +kernel
theorem dX4_goOnSweeping_32 : decode cX4_goOnSweeping 32 = .ok (.iaload, 1) := by decide +kernel
theorem dX4_goOnSweeping_33 : decode cX4_goOnSweeping 33 = .ok (.aload_n 0, 1) := by decide +kernel
theorem dX4_goOnSweeping_34 : decode cX4_goOnSweeping 34 = .ok (.getfield 44, 3) := by decide +kernel
theorem dX4_goOnSweeping_37 : decode cX4_goOnSweeping 37 = .ok (.isub, 1) := by decide +kernel
theorem dX4_goOnSweeping_38 : decode cX4_goOnSweeping 38 = .ok (.aload_n 0, 1) := by decide +kernel
theorem dX4_goOnSweeping_39 : decode cX4_goOnSweeping 39 = .ok (.getfield 47, 3) := by decide +kernel
theorem dX4_goOnSweeping_42 : decode cX4_goOnSweeping 42 = .ok (.imul, 1) := by decide +kernel
theorem dX4_goOnSweeping_43 : decode cX4_goOnSweeping 43 = .ok (.iload_n 1, 1) := by decide +kernel
theorem dX4_goOnSweeping_44 : decode cX4_goOnSweeping 44 = .ok (.idiv, 1) := by decide +kernel
theorem dX4_goOnSweeping_45 : decode cX4_goOnSweeping 45 = .ok (.iadd, 1) := by decide +kernel
theorem dX4_goOnSweeping_46 : decode cX4_goOnSweeping 46 = .ok (.putfield 9, 3) := by decide +kernel
theorem dX4_goOnSweeping_49 : decode cX4_goOnSweeping 49 = .ok (.aload_n 0, 1) := by decide +kernel
theorem dX4_goOnSweeping_50 : decode cX4_goOnSweeping 50 = .ok (.getfield 47, 3) := by decide +kernel
theorem dX4_goOnSweeping_53 : decode cX4_goOnSweeping 53 = .ok (.iload_n 1, 1) := by decide +kernel
theorem dX4_goOnSweeping_54 : decode cX4_goOnSweeping 54 = .ok (.if_icmp .lt 11, 3) := by decide +kernel
theorem dX4_goOnSweeping_57 : decode cX4_goOnSweeping 57 = .ok (.aload_n 0, 1) := by decide +kernel
theorem dX4_goOnSweeping_58 : decode cX4_goOnSweeping 58 = .ok (.invokevirtual 57, 3) := by decide +kernel
theorem dX4_goOnSweeping_61 : decode cX4_goOnSweeping 61 = .ok (.aload_n 0, 1) := by decide +kernel
theorem dX4_goOnSweeping_62 : decode cX4_goOnSweeping 62 = .ok (.invokevirtual 50, 3) := by decide +kernel
theorem dX4_goOnSweeping_65 : decode cX4_goOnSweeping 65 = .ok (.return_, 1) := by decide +kernel
theorem dX4_dropFirstSweep_0 : decode cX4_dropFirstSweep 0 = .ok (.aload_n 0, 1) := by decide +kernel
theorem dX4_dropFirstSweep_1 : decode cX4_dropFirstSweep 1 = .ok (.dup, 1) := by decide +kernel
theorem dX4_dropFirstSweep_2 : decode cX4_dropFirstSweep 2 = .ok (.getfield 35, 3) := by decide +kernel
theorem dX4_dropFirstSweep_5 : decode cX4_dropFirstSweep 5 = .ok (.iconst 1, 1) := by decide +kernel
theorem dX4_dropFirstSweep_6 : decode cX4_dropFirstSweep 6 = .ok (.isub, 1) := by decide +kernel
theorem dX4_dropFirstSweep_7 : decode cX4_dropFirstSweep 7 = .ok (.putfield 35, 3) := by decide +kernel
theorem dX4_dropFirstSweep_10 : decode cX4_dropFirstSweep 10 = .ok (.iconst 0, 1) := by decide +kernel
theorem dX4_dropFirstSweep_11 : decode cX4_dropFirstSweep 11 = .ok (.istore_n 1, 1) := by decide +kernel
theorem dX4_dropFirstSweep_12 : decode cX4_dropFirstSweep 12 = .ok (.iload_n 1, 1) := by decide +kernel
theorem dX4_dropFirstSweep_13 : decode cX4_dropFirstSweep 13 = .ok (.aload_n 0, 1) := by decide +kernel
theorem dX4_dropFirstSweep_14 : decode cX4_dropFirstSweep 14 = .ok (.getfield 35, 3) := by decide +kernel
theorem dX4_dropFirstSweep_17 : decode cX4_dropFirstSweep 17 = .ok (.if_icmp .ge 44, 3) := by decide +kernel
theorem dX4_dropFirstSweep_20 : decode cX4_dropFirstSweep 20 = .ok (.iload_n 1, 1) := by decide +kernel
theorem dX4_dropFirstSweep_21 : decode cX4_dropFirstSweep 21 = .ok (.iconst 1, 1) := by decide +kernel
theorem dX4_dropFirstSweep_22 : decode cX4_dropFirstSweep 22 = .ok (.iadd, 1) := by decide +kernel
theorem dX4_dropFirstSweep_23 : decode cX4_dropFirstSweep 23 = .ok (.iconst 4, 1) := by decide +kernel
theorem dX4_dropFirstSweep_24 : decode cX4_dropFirstSweep 24 = .ok (.if_icmp .ge 37, 3) := by decide +kernel
theorem dX4_dropFirstSweep_27 : decode cX4_dropFirstSweep 27 = .ok (.aload_n 0, 1) := by decide +kernel
theorem dX4_dropFirstSweep_28 : decode cX4_dropFirstSweep 28 = .ok (.getfield 18, 3) := by decide +kernel
theorem dX4_dropFirstSweep_31 : decode cX4_dropFirstSweep 31 = .ok (.iload_n 1, 1) := by decide +kernel
theorem dX4_dropFirstSweep_32 : decode cX4_dropFirstSweep 32 = .ok (.aload_n 0, 1) := by decide +kernel
theorem dX4_dropFirstSweep_33 : decode cX4_dropFirstSweep 33 = .ok (.getfield 18, 3) := by decide +kernel
theorem dX4_dropFirstSweep_36 : decode cX4_dropFirstSweep 36 = .ok (.iload_n 1, 1) := by decide +kernel
theorem dX4_dropFirstSweep_37 : decode cX4_dropFirstSweep 37 = .ok (.iconst 1, 1) := by decide +kernel
theorem dX4_dropFirstSweep_38 : decode cX4_dropFirstSweep 38 = .ok (.iadd, 1) := by decide +kernel
theorem dX4_dropFirstSweep_39 : decode cX4_dropFirstSweep 39 = .ok (.iaload, 1) := by decide +kernel
theorem dX4_dropFirstSweep_40 : decode cX4_dropFirstSweep 40 = .ok (.iastore, 1) := by decide +kernel
theorem dX4_dropFirstSweep_41 : decode cX4_dropFirstSweep 41 = .ok (.aload_n 0, 1) := by decide +kernel
theorem dX4_dropFirstSweep_42 : decode cX4_dropFirstSweep 42 = .ok (.getfield 22, 3) := by decide +kernel
theorem dX4_dropFirstSweep_45 : decode cX4_dropFirstSweep 45 = .ok (.iload_n 1, 1) := by decide +kernel
theorem dX4_dropFirstSweep_46 : decode cX4_dropFirstSweep 46 = .ok (.aload_n 0, 1) := by decide +kernel
theorem dX4_dropFirstSweep_47 : decode cX4_dropFirstSweep 47 = .ok (.getfield 22, 3) := by decide +kernel
theorem dX4_dropFirstSweep_50 : decode cX4_dropFirstSweep 50 = .ok (.iload_n 1, 1) := by decide +kernel
theorem dX4_dropFirstSweep_51 : decode cX4_dropFirstSweep 51 = .ok (.iconst 1, 1) := by decide +kernel
theorem dX4_dropFirstSweep_52 : decode cX4_dropFirstSweep 52 = .ok (.iadd, 1) := by decide +kernel
theorem dX4_dropFirstSweep_53 : decode cX4_dropFirstSweep 53 = .ok (.iaload, 1) := by decide +kernel
theorem dX4_dropFirstSweep_54 : decode cX4_dropFirstSweep 54 = .ok (.iastore, 1) := by decide +kernel
theorem dX4_dropFirstSweep_55 : decode cX4_dropFirstSweep 55 = .ok (.iinc 1 1, 3) := by decide +kernel
theorem dX4_dropFirstSweep_58 : decode cX4_dropFirstSweep 58 = .ok (.goto (-46), 3) := by decide +kernel
theorem dX4_dropFirstSweep_61 : decode cX4_dropFirstSweep 61 = .ok (.return_, 1) := by decide +kernel
theorem dX4_image_0 : decode cX4_image 0 = .ok (.aload_n 0, 1) := by decide +kernel
theorem dX4_image_1 : decode cX4_image 1 = .ok (.getfield 9, 3) := by decide +kernel
theorem dX4_image_4 : decode cX4_image 4 = .ok (.ldc 60, 2) := by decide +kernel
theorem dX4_image_6 : decode cX4_image 6 = .ok (.if_icmp .gt 10, 3) := by decide +kernel
theorem dX4_image_9 : decode cX4_image 9 = .ok (.aload_n 0, 1) := by decide +kernel
theorem dX4_image_10 : decode cX4_image 10 = .ok (.getfield 9, 3) := by decide +kernel
theorem dX4_image_13 : decode cX4_image 13 = .ok (.goto 10, 3) := by decide +kernel
theorem dX4_image_16 : decode cX4_image 16 = .ok (.ldc 53, 2) := by decide +kernel
theorem dX4_image_18 : decode cX4_image 18 = .ok (.aload_n 0, 1) := by decide +kernel
theorem dX4_image_19 : decode cX4_image 19 = .ok (.getfield 9, 3) := by decide +kernel
theorem dX4_image_22 : decode cX4_image 22 = .ok (.isub, 1) := by decide +kernel
theorem dX4_image_23 : decode cX4_image 23 = .ok (.ireturn, 1) := by decide +kernel
theorem dX4_samplesOfARound_0 : decode cX4_samplesOfARound 0 = .ok (.aload_n 0, 1) := by decide +kernel
theorem dX4_samplesOfARound_1 : decode cX4_samplesOfARound 1 = .ok (.getfield 9, 3) := by decide +kernel
theorem dX4_samplesOfARound_4 : decode cX4_samplesOfARound 4 = .ok (.ifCond .ne 5, 3) := by decide +kernel
theorem dX4_samplesOfARound_7 : decode cX4_samplesOfARound 7 = .ok (.iconst 1, 1) := by decide +kernel
theorem dX4_samplesOfARound_8 : decode cX4_samplesOfARound 8 = .ok (.ireturn, 1) := by decide +kernel
theorem dX4_samplesOfARound_9 : decode cX4_samplesOfARound 9 = .ok (.aload_n 0, 1) := by decide +kernel
theorem dX4_samplesOfARound_10 : decode cX4_samplesOfARound 10 = .ok (.getfield 9, 3) := by decide +kernel
theorem dX4_samplesOfARound_13 : decode cX4_samplesOfARound 13 = .ok (.aload_n 0, 1) := by decide +kernel
theorem dX4_samplesOfARound_14 : decode cX4_samplesOfARound 14 = .ok (.getfield 9, 3) := by decide +kernel
theorem dX4_samplesOfARound_17 : decode cX4_samplesOfARound 17 = .ok (.ineg, 1) := by decide +kernel
theorem dX4_samplesOfARound_18 : decode cX4_samplesOfARound 18 = .ok (.iand, 1) := by decide +kernel
theorem dX4_samplesOfARound_19 : decode cX4_samplesOfARound 19 = .ok (.istore_n 1, 1) := by decide +kernel
theorem dX4_samplesOfARound_20 : decode cX4_samplesOfARound 20 = .ok (.ldc 53, 2) := by decide +kernel
theorem dX4_samplesOfARound_22 : decode cX4_samplesOfARound 22 = .ok (.iload_n 1, 1) := by decide +kernel
theorem dX4_samplesOfARound_23 : decode cX4_samplesOfARound 23 = .ok (.idiv, 1) := by decide +kernel
theorem dX4_samplesOfARound_24 : decode cX4_samplesOfARound 24 = .ok (.ireturn, 1) := by decide +kernel
theorem dX4_samplesOfSweeps_0 : decode cX4_samplesOfSweeps 0 = .ok (.iconst 0, 1) := by decide +kernel
theorem dX4_samplesOfSweeps_1 : decode cX4_samplesOfSweeps 1 = .ok (.istore_n 1, 1) := by decide +kernel
theorem dX4_samplesOfSweeps_2 : decode cX4_samplesOfSweeps 2 = .ok (.iconst 0, 1) := by decide +kernel
theorem dX4_samplesOfSweeps_3 : decode cX4_samplesOfSweeps 3 = .ok (.istore_n 2, 1) := by decide +kernel
theorem dX4_samplesOfSweeps_4 : decode cX4_samplesOfSweeps 4 = .ok (.iload_n 2, 1) := by decide +kernel
theorem dX4_samplesOfSweeps_5 : decode cX4_samplesOfSweeps 5 = .ok (.aload_n 0, 1) := by decide +kernel
theorem dX4_samplesOfSweeps_6 : decode cX4_samplesOfSweeps 6 = .ok (.getfield 35, 3) := by decide +kernel
theorem dX4_samplesOfSweeps_9 : decode cX4_samplesOfSweeps 9 = .ok (.if_icmp .ge 23, 3) := by decide +kernel
theorem dX4_samplesOfSweeps_12 : decode cX4_samplesOfSweeps 12 = .ok (.iload_n 2, 1) := by decide +kernel
theorem dX4_samplesOfSweeps_13 : decode cX4_samplesOfSweeps 13 = .ok (.iconst 4, 1) := by decide +kernel
theorem dX4_samplesOfSweeps_14 : decode cX4_samplesOfSweeps 14 = .ok (.if_icmp .ge 18, 3) := by decide +kernel
theorem dX4_samplesOfSweeps_17 : decode cX4_samplesOfSweeps 17 = .ok (.iload_n 1, 1) := by decide +kernel
theorem dX4_samplesOfSweeps_18 : decode cX4_samplesOfSweeps 18 = .ok (.aload_n 0, 1) := by decide +kernel
theorem dX4_samplesOfSweeps_19 : decode cX4_samplesOfSweeps 19 = .ok (.getfield 22, 3) := by decide +kernel
theorem dX4_samplesOfSweeps_22 : decode cX4_samplesOfSweeps 22 = .ok (.iload_n 2, 1) := by decide +kernel
theorem dX4_samplesOfSweeps_23 : decode cX4_samplesOfSweeps 23 = .ok (.iaload, 1) := by decide +kernel
theorem dX4_samplesOfSweeps_24 : decode cX4_samplesOfSweeps 24 = .ok (.iadd, 1) := by decide +kernel
theorem dX4_samplesOfSweeps_25 : decode cX4_samplesOfSweeps 25 = .ok (.istore_n 1, 1) := by decide +kernel
theorem dX4_samplesOfSweeps_26 : decode cX4_samplesOfSweeps 26 = .ok (.iinc 2 1, 3) := by decide +kernel
theorem dX4_samplesOfSweeps_29 : decode cX4_samplesOfSweeps 29 = .ok (.goto (-25), 3) := by decide +kernel
theorem dX4_samplesOfSweeps_32 : decode cX4_samplesOfSweeps 32 = .ok (.aload_n 0, 1) := by decide +kernel
theorem dX4_samplesOfSweeps_33 : decode cX4_samplesOfSweeps 33 = .ok (.getfield 35, 3) := by decide +kernel
theorem dX4_samplesOfSweeps_36 : decode cX4_samplesOfSweeps 36 = .ok (.ifCond .le 12, 3) := by decide +kernel
theorem dX4_samplesOfSweeps_39 : decode cX4_samplesOfSweeps 39 = .ok (.iload_n 1, 1) := by decide +kernel
theorem dX4_samplesOfSweeps_40 : decode cX4_samplesOfSweeps 40 = .ok (.aload_n 0, 1) := by decide +kernel
theorem dX4_samplesOfSweeps_41 : decode cX4_samplesOfSweeps 41 = .ok (.getfield 47, 3) := by decide +kernel
theorem dX4_samplesOfSweeps_44 : decode cX4_samplesOfSweeps 44 = .ok (.isub, 1) := by decide +kernel
theorem dX4_samplesOfSweeps_45 : decode cX4_samplesOfSweeps 45 = .ok (.goto 4, 3) := by decide +kernel
theorem dX4_samplesOfSweeps_48 : decode cX4_samplesOfSweeps 48 = .ok (.iconst 0, 1) := by decide +kernel
theorem dX4_samplesOfSweeps_49 : decode cX4_samplesOfSweeps 49 = .ok (.ireturn, 1) := by decide +kernel
theorem dX4_lastStep_0 : decode cX4_lastStep 0 = .ok (.aload_n 0, 1) := by decide +kernel
theorem dX4_lastStep_1 : decode cX4_lastStep 1 = .ok (.getfield 35, 3) := by decide +kernel
theorem dX4_lastStep_4 : decode cX4_lastStep 4 = .ok (.ifCond .le 25, 3) := by decide +kernel
theorem dX4_lastStep_7 : decode cX4_lastStep 7 = .ok (.aload_n 0, 1) := by decide +kernel
theorem dX4_lastStep_8 : decode cX4_lastStep 8 = .ok (.getfield 35, 3) := by decide +kernel
theorem dX4_lastStep_11 : decode cX4_lastStep 11 = .ok (.iconst 4, 1) := by decide +kernel
theorem dX4_lastStep_12 : decode cX4_lastStep 12 = .ok (.if_icmp .gt 17, 3) := by decide +kernel
theorem dX4_lastStep_15 : decode cX4_lastStep 15 = .ok (.aload_n 0, 1) := by decide +kernel
theorem dX4_lastStep_16 : decode cX4_lastStep 16 = .ok (.getfield 18, 3) := by decide +kernel
theorem dX4_lastStep_19 : decode cX4_lastStep 19 = .ok (.aload_n 0, 1) := by decide +kernel
theorem dX4_lastStep_20 : decode cX4_lastStep 20 = .ok (.getfield 35, 3) := by decide +kernel
theorem dX4_lastStep_23 : decode cX4_lastStep 23 = .ok (.iconst 1, 1) := by decide +kernel
theorem dX4_lastStep_24 : decode cX4_lastStep 24 = .ok (.isub, 1) := by decide +kernel
theorem dX4_lastStep_25 : decode cX4_lastStep 25 = .ok (.iaload, 1) := by decide +kernel
theorem dX4_lastStep_26 : decode cX4_lastStep 26 = .ok (.goto 7, 3) := by decide +kernel
theorem dX4_lastStep_29 : decode cX4_lastStep 29 = .ok (.aload_n 0, 1) := by decide +kernel
theorem dX4_lastStep_30 : decode cX4_lastStep 30 = .ok (.getfield 9, 3) := by decide +kernel
theorem dX4_lastStep_33 : decode cX4_lastStep 33 = .ok (.ireturn, 1) := by decide +kernel
set_option maxRecDepth 20000 in
theorem ggX4_goRound_X4_goOn : GoodIn wsX4_goRound wsX4_goOn := goodIn_r _ [10, 3, 4, 11, 1, 12, 13, 14, 9, 15, 16, 17, 18, 19, 20, 21, 22, 23, 24, 25, 26, 27, 28, 29, 30, 31, 32, 33, 34, 35, 36, 37] (by decide +kernel) (by decide +kernel)
set_option maxRecDepth 20000 in
theorem gX4_goRound_X4_goOn : GoodIn wsX4_goRound (wsV RX4 62 RX4 yX4_goOn wsX4_goOn) := goodIn_app (goodIn_of _ (by decide +kernel)) ggX4_goRound_X4_goOn
theorem dX4_goRound_0 : decode cX4_goRound 0 = .ok (.iconst 0, 1) := by decide +kernel
theorem dX4_goRound_1 : decode cX4_goRound 1 = .ok (.istore_n 1, 1) := by decide +kernel
theorem dX4_goRound_2 : decode cX4_goRound 2 = .ok (.aload_n 0, 1) := by decide +kernel
theorem dX4_goRound_3 : decode cX4_goRound 3 = .ok (.getfield 35, 3) := by decide +kernel
theorem dX4_goRound_6 : decode cX4_goRound 6 = .ok (.ifCond .le 34, 3) := by decide +kernel
theorem dX4_goRound_9 : decode cX4_goRound 9 = .ok (.iload_n 1, 1) := by decide +kernel
theorem dX4_goRound_10 : decode cX4_goRound 10 = .ok (.ldc 61, 2) := by decide +kernel
theorem dX4_goRound_12 : decode cX4_goRound 12 = .ok (.if_icmp .ge 28, 3) := by decide +kernel
theorem dX4_goRound_15 : decode cX4_goRound 15 = .ok (.aload_n 0, 1) := by decide +kernel
theorem dX4_goRound_16 : decode cX4_goRound 16 = .ok (.getfield 25, 3) := by decide +kernel
theorem dX4_goRound_19 : decode cX4_goRound 19 = .ok (.istore_n 2, 1) := by decide +kernel
theorem dX4_goRound_20 : decode cX4_goRound 20 = .ok (.aload_n 0, 1) := by decide +kernel
theorem dX4_goRound_21 : decode cX4_goRound 21 = .ok (.invokevirtual 62, 3) := by decide +kernel
theorem dX4_goRound_24 : decode cX4_goRound 24 = .ok (.iinc 1 1, 3) := by decide +kernel
theorem dX4_goRound_27 : decode cX4_goRound 27 = .ok (.aload_n 0, 1) := by decide +kernel
theorem dX4_goRound_28 : decode cX4_goRound 28 = .ok (.getfield 25, 3) := by decide +kernel
theorem dX4_goRound_31 : decode cX4_goRound 31 = .ok (.iload_n 2, 1) := by decide +kernel
theorem dX4_goRound_32 : decode cX4_goRound 32 = .ok (.if_icmp .ge 5, 3) := by decide +kernel
theorem dX4_goRound_35 : decode cX4_goRound 35 = .ok (.iload_n 1, 1) := by decide +kernel
theorem dX4_goRound_36 : decode cX4_goRound 36 = .ok (.ireturn, 1) := by decide +kernel
theorem dX4_goRound_37 : decode cX4_goRound 37 = .ok (.goto (-35), 3) := by decide +kernel
theorem dX4_goRound_40 : decode cX4_goRound 40 = .ok (.aload_n 0, 1) := by decide +kernel
theorem dX4_goRound_41 : decode cX4_goRound 41 = .ok (.getfield 9, 3) := by decide +kernel
theorem dX4_goRound_44 : decode cX4_goRound 44 = .ok (.ifCond .ne 6, 3) := by decide +kernel
theorem dX4_goRound_47 : decode cX4_goRound 47 = .ok (.bipush (-6), 2) := by decide +kernel
theorem dX4_goRound_49 : decode cX4_goRound 49 = .ok (.ireturn, 1) := by decide +kernel
theorem dX4_goRound_50 : decode cX4_goRound 50 = .ok (.iload_n 1, 1) := by decide +kernel
theorem dX4_goRound_51 : decode cX4_goRound 51 = .ok (.ldc 65, 2) := by decide +kernel
theorem dX4_goRound_53 : decode cX4_goRound 53 = .ok (.aload_n 0, 1) := by decide +kernel
theorem dX4_goRound_54 : decode cX4_goRound 54 = .ok (.getfield 25, 3) := by decide +kernel
theorem dX4_goRound_57 : decode cX4_goRound 57 = .ok (.isub, 1) := by decide +kernel
theorem dX4_goRound_58 : decode cX4_goRound 58 = .ok (.aload_n 0, 1) := by decide +kernel
theorem dX4_goRound_59 : decode cX4_goRound 59 = .ok (.getfield 9, 3) := by decide +kernel
theorem dX4_goRound_62 : decode cX4_goRound 62 = .ok (.idiv, 1) := by decide +kernel
theorem dX4_goRound_63 : decode cX4_goRound 63 = .ok (.iconst 1, 1) := by decide +kernel
theorem dX4_goRound_64 : decode cX4_goRound 64 = .ok (.iadd, 1) := by decide +kernel
theorem dX4_goRound_65 : decode cX4_goRound 65 = .ok (.iadd, 1) := by decide +kernel
theorem dX4_goRound_66 : decode cX4_goRound 66 = .ok (.istore_n 1, 1) := by decide +kernel
theorem dX4_goRound_67 : decode cX4_goRound 67 = .ok (.iload_n 1, 1) := by decide +kernel
theorem dX4_goRound_68 : decode cX4_goRound 68 = .ok (.ldc 61, 2) := by decide +kernel
theorem dX4_goRound_70 : decode cX4_goRound 70 = .ok (.if_icmp .gt 7, 3) := by decide +kernel
theorem dX4_goRound_73 : decode cX4_goRound 73 = .ok (.iload_n 1, 1) := by decide +kernel
theorem dX4_goRound_74 : decode cX4_goRound 74 = .ok (.goto 5, 3) := by decide +kernel
theorem dX4_goRound_77 : decode cX4_goRound 77 = .ok (.bipush (-6), 2) := by decide +kernel
theorem dX4_goRound_79 : decode cX4_goRound 79 = .ok (.ireturn, 1) := by decide +kernel
set_option maxRecDepth 20000 in
theorem ggX5_init_X3_init : GoodIn wsX5_init wsX3_init := goodIn_r _ [23, 24, 2, 3, 25, 26, 27, 28, 29, 30, 31, 32, 33, 34, 35, 36, 37, 38, 39, 40, 62, 63, 64, 65, 66, 67, 68, 69, 87, 88, 89, 90, 91, 92, 93, 94, 95, 96] (by decide +kernel) (by decide +kernel)
set_option maxRecDepth 20000 in
theorem gX5_init_X3_init : GoodIn wsX5_init (wsX3_init) := ggX5_init_X3_init
set_option maxRecDepth 20000 in
theorem ggX5_init_X0_init : GoodIn wsX5_init wsX0_init := goodIn_r _ [43, 44, 2, 3, 45, 46, 5, 6, 47, 22, 23, 24, 25, 26, 27, 28, 29, 30, 31, 32, 33, 34, 35, 36, 37, 38, 39, 40, 75, 76, 77, 62, 63, 64, 65, 66, 67, 68, 69, 87, 88, 89, 90, 91, 92, 93, 94, 95, 96] (by decide +kernel) (by decide +kernel)
set_option maxRecDepth 20000 in
theorem gX5_init_X0_init : GoodIn wsX5_init (wsX0_init) := ggX5_init_X0_init
set_option maxRecDepth 20000 in
theorem ggX5_init_X2_init : GoodIn wsX5_init wsX2_init := goodIn_r _ [50, 51, 2, 3, 52, 53, 54, 55, 5, 6, 56, 22, 23, 24, 25, 26, 27, 28, 29, 30, 31, 32, 33, 34, 35, 36, 37, 38, 39, 40, 78, 79, 62, 63, 64, 65, 66, 67, 68, 69, 87, 88, 89, 90, 91, 92, 93, 94, 95, 96] (by decide +kernel) (by decide +kernel)
set_option maxRecDepth 20000 in
theorem gX5_init_X2_init : GoodIn wsX5_init (wsX2_init) := ggX5_init_X2_init
set_option maxRecDepth 20000 in
theorem ggX5_init_X1_init : GoodIn wsX5_init wsX1_init := goodIn_r _ [58, 59, 2, 3, 60, 61, 80, 81, 82, 83, 84, 85, 86] (by decide +kernel) (by decide +kernel)
set_option maxRecDepth 20000 in
theorem gX5_init_X1_init_n35 : GoodIn wsX5_init (wsX1_init) := ggX5_init_X1_init
theorem dX5_init_0 : decode cX5_init 0 = .ok (.aload_n 0, 1) := by decide +kernel
theorem dX5_init_1 : decode cX5_init 1 = .ok (.invokespecial 1, 3) := by decide +kernel
theorem dX5_init_4 : decode cX5_init 4 = .ok (.aload_n 0, 1) := by decide +kernel
theorem dX5_init_5 : decode cX5_init 5 = .ok (.new 7, 3) := by decide +kernel
theorem dX5_init_8 : decode cX5_init 8 = .ok (.dup, 1) := by decide +kernel
theorem dX5_init_9 : decode cX5_init 9 = .ok (.invokespecial 9, 3) := by decide +kernel
theorem dX5_init_12 : decode cX5_init 12 = .ok (.putfield 10, 3) := by decide +kernel
theorem dX5_init_15 : decode cX5_init 15 = .ok (.aload_n 0, 1) := by decide +kernel
theorem dX5_init_16 : decode cX5_init 16 = .ok (.new 7, 3) := by decide +kernel
theorem dX5_init_19 : decode cX5_init 19 = .ok (.dup, 1) := by decide +kernel
theorem dX5_init_20 : decode cX5_init 20 = .ok (.invokespecial 9, 3) := by decide +kernel
theorem dX5_init_23 : decode cX5_init 23 = .ok (.putfield 16, 3) := by decide +kernel
theorem dX5_init_26 : decode cX5_init 26 = .ok (.aload_n 0, 1) := by decide +kernel
theorem dX5_init_27 : decode cX5_init 27 = .ok (.new 19, 3) := by decide +kernel
theorem dX5_init_30 : decode cX5_init 30 = .ok (.dup, 1) := by decide +kernel
theorem dX5_init_31 : decode cX5_init 31 = .ok (.invokespecial 21, 3) := by decide +kernel
theorem dX5_init_34 : decode cX5_init 34 = .ok (.putfield 22, 3) := by decide +kernel
theorem dX5_init_37 : decode cX5_init 37 = .ok (.aload_n 0, 1) := by decide +kernel
theorem dX5_init_38 : decode cX5_init 38 = .ok (.new 26, 3) := by decide +kernel
theorem dX5_init_41 : decode cX5_init 41 = .ok (.dup, 1) := by decide +kernel
theorem dX5_init_42 : decode cX5_init 42 = .ok (.invokespecial 28, 3) := by decide +kernel
theorem dX5_init_45 : decode cX5_init 45 = .ok (.putfield 29, 3) := by decide +kernel
theorem dX5_init_48 : decode cX5_init 48 = .ok (.aload_n 0, 1) := by decide +kernel
theorem dX5_init_49 : decode cX5_init 49 = .ok (.new 33, 3) := by decide +kernel
theorem dX5_init_52 : decode cX5_init 52 = .ok (.dup, 1) := by decide +kernel
theorem dX5_init_53 : decode cX5_init 53 = .ok (.invokespecial 35, 3) := by decide +kernel
theorem dX5_init_56 : decode cX5_init 56 = .ok (.putfield 36, 3) := by decide +kernel
theorem dX5_init_59 : decode cX5_init 59 = .ok (.return_, 1) := by decide +kernel
set_option maxRecDepth 20000 in
theorem ggX5_clip_X5_isOutside : GoodIn wsX5_clip wsX5_isOutside := goodIn_r _ [7] (by decide +kernel) (by decide +kernel)
set_option maxRecDepth 20000 in
theorem gX5_clip_X5_isOutside : GoodIn wsX5_clip (va_wsS RX5 40 yX5_isOutside wsX5_isOutside) := goodIn_app (goodIn_of _ (by decide +kernel)) ggX5_clip_X5_isOutside
set_option maxRecDepth 20000 in
theorem ggX5_clip_X0_keep : GoodIn wsX5_clip wsX0_keep := goodIn_r _ [12, 13, 14, 15, 16, 17, 18, 19, 20, 21, 22, 23, 24, 25, 26, 27, 28, 29, 30, 31, 32, 33, 34, 35, 36, 37, 38, 39, 40, 41, 42, 43, 44, 45, 46, 47, 48, 49, 50, 51, 52, 53, 54, 55, 56, 70, 71, 72, 62, 63, 64, 65, 66, 67, 68, 69, 73, 74, 75, 76, 77, 78, 79, 80, 81, 82] (by decide +kernel) (by decide +kernel)
set_option maxRecDepth 20000 in
theorem gX5_clip_X0_keep : GoodIn wsX5_clip (wsV RX5 44 RX0 yX0_keep wsX0_keep) := goodIn_app (goodIn_of _ (by decide +kernel)) ggX5_clip_X0_keep
theorem dX5_clip_0 : decode cX5_clip 0 = .ok (.iload_n 1, 1) := by decide +kernel
theorem dX5_clip_1 : decode cX5_clip 1 = .ok (.iconst 1, 1) := by decide +kernel
theorem dX5_clip_2 : decode cX5_clip 2 = .ok (.sipush 960, 3) := by decide +kernel
theorem dX5_clip_5 : decode cX5_clip 5 = .ok (.invokestatic 40, 3) := by decide +kernel
theorem dX5_clip_8 : decode cX5_clip 8 = .ok (.ifCond .eq 6, 3) := by decide +kernel
theorem dX5_clip_11 : decode cX5_clip 11 = .ok (.bipush (-2), 2) := by decide +kernel
theorem dX5_clip_13 : decode cX5_clip 13 = .ok (.ireturn, 1) := by decide +kernel
theorem dX5_clip_14 : decode cX5_clip 14 = .ok (.aload_n 0, 1) := by decide +kernel
theorem dX5_clip_15 : decode cX5_clip 15 = .ok (.getfield 22, 3) := by decide +kernel
theorem dX5_clip_18 : decode cX5_clip 18 = .ok (.aload_n 0, 1) := by decide +kernel
theorem dX5_clip_19 : decode cX5_clip 19 = .ok (.getfield 10, 3) := by decide +kernel
theorem dX5_clip_22 : decode cX5_clip 22 = .ok (.invokevirtual 44, 3) := by decide +kernel
theorem dX5_clip_25 : decode cX5_clip 25 = .ok (.aload_n 0, 1) := by decide +kernel
theorem dX5_clip_26 : decode cX5_clip 26 = .ok (.getfield 10, 3) := by decide +kernel
theorem dX5_clip_29 : decode cX5_clip 29 = .ok (.getfield 48, 3) := by decide +kernel
theorem dX5_clip_32 : decode cX5_clip 32 = .ok (.istore_n 2, 1) := by decide +kernel
theorem dX5_clip_33 : decode cX5_clip 33 = .ok (.aload_n 0, 1) := by decide +kernel
theorem dX5_clip_34 : decode cX5_clip 34 = .ok (.getfield 10, 3) := by decide +kernel
theorem dX5_clip_37 : decode cX5_clip 37 = .ok (.iload_n 1, 1) := by decide +kernel
theorem dX5_clip_38 : decode cX5_clip 38 = .ok (.putfield 48, 3) := by decide +kernel
theorem dX5_clip_41 : decode cX5_clip 41 = .ok (.iload_n 2, 1) := by decide +kernel
theorem dX5_clip_42 : decode cX5_clip 42 = .ok (.ireturn, 1) := by decide +kernel
set_option maxRecDepth 20000 in
theorem ggX5_fill_X5_isNoTable : GoodIn wsX5_fill wsX5_isNoTable := goodIn_r _ [7, 8, 9, 6, 10] (by decide +kernel) (by decide +kernel)
set_option maxRecDepth 20000 in
theorem gX5_fill_X5_isNoTable : GoodIn wsX5_fill (va_wsS RX5 52 yX5_isNoTable wsX5_isNoTable) := goodIn_app (goodIn_of _ (by decide +kernel)) ggX5_fill_X5_isNoTable
set_option maxRecDepth 20000 in
theorem ggX5_fill_X5_isNoPlace : GoodIn wsX5_fill wsX5_isNoPlace := goodIn_r _ [13, 8, 9, 6, 10] (by decide +kernel) (by decide +kernel)
set_option maxRecDepth 20000 in
theorem gX5_fill_X5_isNoPlace : GoodIn wsX5_fill (va_wsS RX5 56 yX5_isNoPlace wsX5_isNoPlace) := goodIn_app (goodIn_of _ (by decide +kernel)) ggX5_fill_X5_isNoPlace
set_option maxRecDepth 20000 in
theorem ggX5_fill_X5_isOutside : GoodIn wsX5_fill wsX5_isOutside := goodIn_r _ [10] (by decide +kernel) (by decide +kernel)
set_option maxRecDepth 20000 in
theorem gX5_fill_X5_isOutside : GoodIn wsX5_fill (va_wsS RX5 40 yX5_isOutside wsX5_isOutside) := goodIn_app (goodIn_of _ (by decide +kernel)) ggX5_fill_X5_isOutside
set_option maxRecDepth 20000 in
theorem ggX5_fill_X0_keep : GoodIn wsX5_fill wsX0_keep := goodIn_r _ [18, 19, 20, 21, 22, 23, 24, 25, 26, 27, 28, 29, 30, 31, 32, 33, 34, 35, 36, 37, 38, 39, 40, 41, 42, 43, 44, 45, 46, 47, 48, 49, 50, 51, 52, 53, 54, 55, 56, 57, 58, 59, 60, 61, 62, 76, 77, 78, 68, 69, 70, 71, 72, 73, 74, 75, 79, 80, 81, 82, 83, 84, 85, 86, 87, 88] (by decide +kernel) (by decide +kernel)
set_option maxRecDepth 20000 in
theorem gX5_fill_X0_keep : GoodIn wsX5_fill (wsV RX5 44 RX0 yX0_keep wsX0_keep) := goodIn_app (goodIn_of _ (by decide +kernel)) ggX5_fill_X0_keep
theorem dX5_fill_0 : decode cX5_fill 0 = .ok (.iload_n 1, 1) := by decide +kernel
theorem dX5_fill_1 : decode cX5_fill 1 = .ok (.invokestatic 52, 3) := by decide +kernel
theorem dX5_fill_4 : decode cX5_fill 4 = .ok (.ifCond .ne 10, 3) := by decide +kernel
theorem dX5_fill_7 : decode cX5_fill 7 = .ok (.iload_n 2, 1) := by decide +kernel
theorem dX5_fill_8 : decode cX5_fill 8 = .ok (.invokestatic 56, 3) := by decide +kernel
theorem dX5_fill_11 : decode cX5_fill 11 = .ok (.ifCond .eq 5, 3) := by decide +kernel
theorem dX5_fill_14 : decode cX5_fill 14 = .ok (.iconst (-1), 1) := by decide +kernel
theorem dX5_fill_15 : decode cX5_fill 15 = .ok (.ireturn, 1) := by decide +kernel
theorem dX5_fill_16 : decode cX5_fill 16 = .ok (.iload_n 3, 1) := by decide +kernel
theorem dX5_fill_17 : decode cX5_fill 17 = .ok (.iconst 0, 1) := by decide +kernel
theorem dX5_fill_18 : decode cX5_fill 18 = .ok (.bipush 15, 2) := by decide +kernel
theorem dX5_fill_20 : decode cX5_fill 20 = .ok (.invokestatic 40, 3) := by decide +kernel
theorem dX5_fill_23 : decode cX5_fill 23 = .ok (.ifCond .eq 6, 3) := by decide +kernel
theorem dX5_fill_26 : decode cX5_fill 26 = .ok (.bipush (-2), 2) := by decide +kernel
theorem dX5_fill_28 : decode cX5_fill 28 = .ok (.ireturn, 1) := by decide +kernel
theorem dX5_fill_29 : decode cX5_fill 29 = .ok (.aload_n 0, 1) := by decide +kernel
theorem dX5_fill_30 : decode cX5_fill 30 = .ok (.getfield 22, 3) := by decide +kernel
theorem dX5_fill_33 : decode cX5_fill 33 = .ok (.aload_n 0, 1) := by decide +kernel
theorem dX5_fill_34 : decode cX5_fill 34 = .ok (.getfield 10, 3) := by decide +kernel
theorem dX5_fill_37 : decode cX5_fill 37 = .ok (.invokevirtual 44, 3) := by decide +kernel
theorem dX5_fill_40 : decode cX5_fill 40 = .ok (.iload_n 1, 1) := by decide +kernel
theorem dX5_fill_41 : decode cX5_fill 41 = .ok (.bipush 16, 2) := by decide +kernel
theorem dX5_fill_43 : decode cX5_fill 43 = .ok (.imul, 1) := by decide +kernel
theorem dX5_fill_44 : decode cX5_fill 44 = .ok (.iload_n 2, 1) := by decide +kernel
theorem dX5_fill_45 : decode cX5_fill 45 = .ok (.iadd, 1) := by decide +kernel
theorem dX5_fill_46 : decode cX5_fill 46 = .ok (.istore 4, 2) := by decide +kernel
theorem dX5_fill_48 : decode cX5_fill 48 = .ok (.aload_n 0, 1) := by decide +kernel
theorem dX5_fill_49 : decode cX5_fill 49 = .ok (.getfield 10, 3) := by decide +kernel
theorem dX5_fill_52 : decode cX5_fill 52 = .ok (.getfield 59, 3) := by decide +kernel
theorem dX5_fill_55 : decode cX5_fill 55 = .ok (.iload 4, 2) := by decide +kernel
theorem dX5_fill_57 : decode cX5_fill 57 = .ok (.iaload, 1) := by decide +kernel
theorem dX5_fill_58 : decode cX5_fill 58 = .ok (.istore 5, 2) := by decide +kernel
theorem dX5_fill_60 : decode cX5_fill 60 = .ok (.aload_n 0, 1) := by decide +kernel
theorem dX5_fill_61 : decode cX5_fill 61 = .ok (.getfield 10, 3) := by decide +kernel
theorem dX5_fill_64 : decode cX5_fill 64 = .ok (.getfield 59, 3) := by decide +kernel
theorem dX5_fill_67 : decode cX5_fill 67 = .ok (.iload 4, 2) := by decide +kernel
theorem dX5_fill_69 : decode cX5_fill 69 = .ok (.iload_n 3, 1) := by decide +kernel
theorem dX5_fill_70 : decode cX5_fill 70 = .ok (.iastore, 1) := by decide +kernel
theorem dX5_fill_71 : decode cX5_fill 71 = .ok (.iload 5, 2) := by decide +kernel
theorem dX5_fill_73 : decode cX5_fill 73 = .ok (.ireturn, 1) := by decide +kernel
set_option maxRecDepth 20000 in
theorem ggX5_step_X5_isNoWheel : GoodIn wsX5_step wsX5_isNoWheel := goodIn_r _ [9, 10, 11, 8, 12] (by decide +kernel) (by decide +kernel)
set_option maxRecDepth 20000 in
theorem gX5_step_X5_isNoWheel : GoodIn wsX5_step (va_wsS RX5 63 yX5_isNoWheel wsX5_isNoWheel) := goodIn_app (goodIn_of _ (by decide +kernel)) ggX5_step_X5_isNoWheel
set_option maxRecDepth 20000 in
theorem ggX5_step_X5_isOutside : GoodIn wsX5_step wsX5_isOutside := goodIn_r _ [12] (by decide +kernel) (by decide +kernel)
set_option maxRecDepth 20000 in
theorem gX5_step_X5_isOutside : GoodIn wsX5_step (va_wsS RX5 40 yX5_isOutside wsX5_isOutside) := goodIn_app (goodIn_of _ (by decide +kernel)) ggX5_step_X5_isOutside
set_option maxRecDepth 20000 in
theorem ggX5_step_X0_keep : GoodIn wsX5_step wsX0_keep := goodIn_r _ [17, 18, 19, 20, 21, 22, 23, 24, 25, 26, 27, 28, 29, 30, 31, 32, 33, 34, 35, 36, 37, 38, 39, 40, 41, 42, 43, 44, 45, 46, 47, 48, 49, 50, 51, 52, 53, 54, 55, 56, 57, 58, 59, 60, 61, 89, 90, 91, 71, 72, 73, 74, 75, 76, 77, 78, 79, 80, 81, 82, 83, 84, 85, 86, 87, 88] (by decide +kernel) (by decide +kernel)
set_option maxRecDepth 20000 in
theorem gX5_step_X0_keep : GoodIn wsX5_step (wsV RX5 44 RX0 yX0_keep wsX0_keep) := goodIn_app (goodIn_of _ (by decide +kernel)) ggX5_step_X0_keep
set_option maxRecDepth 20000 in
theorem ggX5_step_X4_changeStep : GoodIn wsX5_step wsX4_changeStep := goodIn_r _ [65, 52, 56, 79, 80, 81, 82, 83, 84, 85, 86, 87, 88] (by decide +kernel) (by decide +kernel)
set_option maxRecDepth 20000 in
theorem gX5_step_X4_changeStep : GoodIn wsX5_step (wsV RX5 76 RX4 yX4_changeStep wsX4_changeStep) := goodIn_app (goodIn_of _ (by decide +kernel)) ggX5_step_X4_changeStep
theorem dX5_step_0 : decode cX5_step 0 = .ok (.iload_n 1, 1) := by decide +kernel
theorem dX5_step_1 : decode cX5_step 1 = .ok (.invokestatic 63, 3) := by decide +kernel
theorem dX5_step_4 : decode cX5_step 4 = .ok (.ifCond .eq 5, 3) := by decide +kernel
theorem dX5_step_7 : decode cX5_step 7 = .ok (.iconst (-1), 1) := by decide +kernel
theorem dX5_step_8 : decode cX5_step 8 = .ok (.ireturn, 1) := by decide +kernel
theorem dX5_step_9 : decode cX5_step 9 = .ok (.iload_n 2, 1) := by decide +kernel
theorem dX5_step_10 : decode cX5_step 10 = .ok (.iconst 0, 1) := by decide +kernel
theorem dX5_step_11 : decode cX5_step 11 = .ok (.ldc 66, 2) := by decide +kernel
theorem dX5_step_13 : decode cX5_step 13 = .ok (.invokestatic 40, 3) := by decide +kernel
theorem dX5_step_16 : decode cX5_step 16 = .ok (.ifCond .eq 6, 3) := by decide +kernel
theorem dX5_step_19 : decode cX5_step 19 = .ok (.bipush (-2), 2) := by decide +kernel
theorem dX5_step_21 : decode cX5_step 21 = .ok (.ireturn, 1) := by decide +kernel
theorem dX5_step_22 : decode cX5_step 22 = .ok (.aload_n 0, 1) := by decide +kernel
theorem dX5_step_23 : decode cX5_step 23 = .ok (.getfield 22, 3) := by decide +kernel
theorem dX5_step_26 : decode cX5_step 26 = .ok (.aload_n 0, 1) := by decide +kernel
theorem dX5_step_27 : decode cX5_step 27 = .ok (.getfield 10, 3) := by decide +kernel
theorem dX5_step_30 : decode cX5_step 30 = .ok (.invokevirtual 44, 3) := by decide +kernel
theorem dX5_step_33 : decode cX5_step 33 = .ok (.aload_n 0, 1) := by decide +kernel
theorem dX5_step_34 : decode cX5_step 34 = .ok (.getfield 10, 3) := by decide +kernel
theorem dX5_step_37 : decode cX5_step 37 = .ok (.getfield 67, 3) := by decide +kernel
theorem dX5_step_40 : decode cX5_step 40 = .ok (.iload_n 1, 1) := by decide +kernel
theorem dX5_step_41 : decode cX5_step 41 = .ok (.aaload, 1) := by decide +kernel
theorem dX5_step_42 : decode cX5_step 42 = .ok (.getfield 71, 3) := by decide +kernel
theorem dX5_step_45 : decode cX5_step 45 = .ok (.istore_n 3, 1) := by decide +kernel
theorem dX5_step_46 : decode cX5_step 46 = .ok (.aload_n 0, 1) := by decide +kernel
theorem dX5_step_47 : decode cX5_step 47 = .ok (.getfield 10, 3) := by decide +kernel
theorem dX5_step_50 : decode cX5_step 50 = .ok (.getfield 67, 3) := by decide +kernel
theorem dX5_step_53 : decode cX5_step 53 = .ok (.iload_n 1, 1) := by decide +kernel
theorem dX5_step_54 : decode cX5_step 54 = .ok (.aaload, 1) := by decide +kernel
theorem dX5_step_55 : decode cX5_step 55 = .ok (.iload_n 2, 1) := by decide +kernel
theorem dX5_step_56 : decode cX5_step 56 = .ok (.invokevirtual 76, 3) := by decide +kernel
theorem dX5_step_59 : decode cX5_step 59 = .ok (.iload_n 3, 1) := by decide +kernel
theorem dX5_step_60 : decode cX5_step 60 = .ok (.ireturn, 1) := by decide +kernel
set_option maxRecDepth 20000 in
theorem ggX5_table_X5_isNoWheel : GoodIn wsX5_table wsX5_isNoWheel := goodIn_r _ [8, 9, 10, 7, 11] (by decide +kernel) (by decide +kernel)
set_option maxRecDepth 20000 in
theorem gX5_table_X5_isNoWheel : GoodIn wsX5_table (va_wsS RX5 63 yX5_isNoWheel wsX5_isNoWheel) := goodIn_app (goodIn_of _ (by decide +kernel)) ggX5_table_X5_isNoWheel
set_option maxRecDepth 20000 in
theorem ggX5_table_X5_isNoTable : GoodIn wsX5_table wsX5_isNoTable := goodIn_r _ [14, 9, 10, 7, 11] (by decide +kernel) (by decide +kernel)
set_option maxRecDepth 20000 in
theorem gX5_table_X5_isNoTable : GoodIn wsX5_table (va_wsS RX5 52 yX5_isNoTable wsX5_isNoTable) := goodIn_app (goodIn_of _ (by decide +kernel)) ggX5_table_X5_isNoTable
set_option maxRecDepth 20000 in
theorem ggX5_table_X0_keep : GoodIn wsX5_table wsX0_keep := goodIn_r _ [19, 20, 21, 22, 23, 24, 25, 26, 27, 28, 29, 30, 31, 32, 33, 34, 35, 36, 37, 38, 39, 40, 41, 42, 43, 44, 45, 46, 47, 48, 49, 50, 51, 52, 53, 54, 55, 56, 57, 58, 59, 60, 61, 62, 63, 87, 88, 89, 69, 70, 71, 72, 73, 74, 75, 76, 77, 78, 79, 80, 81, 82, 83, 84, 85, 86] (by decide +kernel) (by decide +kernel)
set_option maxRecDepth 20000 in
theorem gX5_table_X0_keep : GoodIn wsX5_table (wsV RX5 44 RX0 yX0_keep wsX0_keep) := goodIn_app (goodIn_of _ (by decide +kernel)) ggX5_table_X0_keep
theorem dX5_table_0 : decode cX5_table 0 = .ok (.iload_n 1, 1) := by decide +kernel
theorem dX5_table_1 : decode cX5_table 1 = .ok (.invokestatic 63, 3) := by decide +kernel
theorem dX5_table_4 : decode cX5_table 4 = .ok (.ifCond .ne 10, 3) := by decide +kernel
theorem dX5_table_7 : decode cX5_table 7 = .ok (.iload_n 2, 1) := by decide +kernel
theorem dX5_table_8 : decode cX5_table 8 = .ok (.invokestatic 52, 3) := by decide +kernel
theorem dX5_table_11 : decode cX5_table 11 = .ok (.ifCond .eq 5, 3) := by decide +kernel
theorem dX5_table_14 : decode cX5_table 14 = .ok (.iconst (-1), 1) := by decide +kernel
theorem dX5_table_15 : decode cX5_table 15 = .ok (.ireturn, 1) := by decide +kernel
theorem dX5_table_16 : decode cX5_table 16 = .ok (.aload_n 0, 1) := by decide +kernel
theorem dX5_table_17 : decode cX5_table 17 = .ok (.getfield 22, 3) := by decide +kernel
theorem dX5_table_20 : decode cX5_table 20 = .ok (.aload_n 0, 1) := by decide +kernel
theorem dX5_table_21 : decode cX5_table 21 = .ok (.getfield 10, 3) := by decide +kernel
theorem dX5_table_24 : decode cX5_table 24 = .ok (.invokevirtual 44, 3) := by decide +kernel
theorem dX5_table_27 : decode cX5_table 27 = .ok (.aload_n 0, 1) := by decide +kernel
theorem dX5_table_28 : decode cX5_table 28 = .ok (.getfield 10, 3) := by decide +kernel
theorem dX5_table_31 : decode cX5_table 31 = .ok (.getfield 67, 3) := by decide +kernel
theorem dX5_table_34 : decode cX5_table 34 = .ok (.iload_n 1, 1) := by decide +kernel
theorem dX5_table_35 : decode cX5_table 35 = .ok (.aaload, 1) := by decide +kernel
theorem dX5_table_36 : decode cX5_table 36 = .ok (.getfield 80, 3) := by decide +kernel
theorem dX5_table_39 : decode cX5_table 39 = .ok (.istore_n 3, 1) := by decide +kernel
theorem dX5_table_40 : decode cX5_table 40 = .ok (.aload_n 0, 1) := by decide +kernel
theorem dX5_table_41 : decode cX5_table 41 = .ok (.getfield 10, 3) := by decide +kernel
theorem dX5_table_44 : decode cX5_table 44 = .ok (.getfield 67, 3) := by decide +kernel
theorem dX5_table_47 : decode cX5_table 47 = .ok (.iload_n 1, 1) := by decide +kernel
theorem dX5_table_48 : decode cX5_table 48 = .ok (.aaload, 1) := by decide +kernel
theorem dX5_table_49 : decode cX5_table 49 = .ok (.iload_n 2, 1) := by decide +kernel
theorem dX5_table_50 : decode cX5_table 50 = .ok (.putfield 80, 3) := by decide +kernel
theorem dX5_table_53 : decode cX5_table 53 = .ok (.iload_n 3, 1) := by decide +kernel
theorem dX5_table_54 : decode cX5_table 54 = .ok (.ireturn, 1) := by decide +kernel
set_option maxRecDepth 20000 in
theorem ggX5_volume_X5_isNoWheel : GoodIn wsX5_volume wsX5_isNoWheel := goodIn_r _ [8, 9, 10, 7, 11] (by decide +kernel) (by decide +kernel)
set_option maxRecDepth 20000 in
theorem gX5_volume_X5_isNoWheel : GoodIn wsX5_volume (va_wsS RX5 63 yX5_isNoWheel wsX5_isNoWheel) := goodIn_app (goodIn_of _ (by decide +kernel)) ggX5_volume_X5_isNoWheel
set_option maxRecDepth 20000 in
theorem ggX5_volume_X5_isOutside : GoodIn wsX5_volume wsX5_isOutside := goodIn_r _ [11] (by decide +kernel) (by decide +kernel)
set_option maxRecDepth 20000 in
theorem gX5_volume_X5_isOutside : GoodIn wsX5_volume (va_wsS RX5 40 yX5_isOutside wsX5_isOutside) := goodIn_app (goodIn_of _ (by decide +kernel)) ggX5_volume_X5_isOutside
set_option maxRecDepth 20000 in
theorem ggX5_volume_X0_keep : GoodIn wsX5_volume wsX0_keep := goodIn_r _ [16, 17, 18, 19, 20, 21, 22, 23, 24, 25, 26, 27, 28, 29, 30, 31, 32, 33, 34, 35, 36, 37, 38, 39, 40, 41, 42, 43, 44, 45, 46, 47, 48, 49, 50, 51, 52, 53, 54, 55, 56, 57, 58, 59, 60, 84, 85, 86, 66, 67, 68, 69, 70, 71, 72, 73, 74, 75, 76, 77, 78, 79, 80, 81, 82, 83] (by decide +kernel) (by decide +kernel)
set_option maxRecDepth 20000 in
theorem gX5_volume_X0_keep : GoodIn wsX5_volume (wsV RX5 44 RX0 yX0_keep wsX0_keep) := goodIn_app (goodIn_of _ (by decide +kernel)) ggX5_volume_X0_keep
theorem dX5_volume_0 : decode cX5_volume 0 = .ok (.iload_n 1, 1) := by decide +kernel
theorem dX5_volume_1 : decode cX5_volume 1 = .ok (.invokestatic 63, 3) := by decide +kernel
theorem dX5_volume_4 : decode cX5_volume 4 = .ok (.ifCond .eq 5, 3) := by decide +kernel
theorem dX5_volume_7 : decode cX5_volume 7 = .ok (.iconst (-1), 1) := by decide +kernel
theorem dX5_volume_8 : decode cX5_volume 8 = .ok (.ireturn, 1) := by decide +kernel
theorem dX5_volume_9 : decode cX5_volume 9 = .ok (.iload_n 2, 1) := by decide +kernel
theorem dX5_volume_10 : decode cX5_volume 10 = .ok (.iconst 0, 1) := by decide +kernel
theorem dX5_volume_11 : decode cX5_volume 11 = .ok (.bipush 16, 2) := by decide +kernel
theorem dX5_volume_13 : decode cX5_volume 13 = .ok (.invokestatic 40, 3) := by decide +kernel
theorem dX5_volume_16 : decode cX5_volume 16 = .ok (.ifCond .eq 6, 3) := by decide +kernel
theorem dX5_volume_19 : decode cX5_volume 19 = .ok (.bipush (-2), 2) := by decide +kernel
theorem dX5_volume_21 : decode cX5_volume 21 = .ok (.ireturn, 1) := by decide +kernel
theorem dX5_volume_22 : decode cX5_volume 22 = .ok (.aload_n 0, 1) := by decide +kernel
theorem dX5_volume_23 : decode cX5_volume 23 = .ok (.getfield 22, 3) := by decide +kernel
theorem dX5_volume_26 : decode cX5_volume 26 = .ok (.aload_n 0, 1) := by decide +kernel
theorem dX5_volume_27 : decode cX5_volume 27 = .ok (.getfield 10, 3) := by decide +kernel
theorem dX5_volume_30 : decode cX5_volume 30 = .ok (.invokevirtual 44, 3) := by decide +kernel
theorem dX5_volume_33 : decode cX5_volume 33 = .ok (.aload_n 0, 1) := by decide +kernel
theorem dX5_volume_34 : decode cX5_volume 34 = .ok (.getfield 10, 3) := by decide +kernel
theorem dX5_volume_37 : decode cX5_volume 37 = .ok (.getfield 67, 3) := by decide +kernel
theorem dX5_volume_40 : decode cX5_volume 40 = .ok (.iload_n 1, 1) := by decide +kernel
theorem dX5_volume_41 : decode cX5_volume 41 = .ok (.aaload, 1) := by decide +kernel
theorem dX5_volume_42 : decode cX5_volume 42 = .ok (.getfield 83, 3) := by decide +kernel
theorem dX5_volume_45 : decode cX5_volume 45 = .ok (.istore_n 3, 1) := by decide +kernel
theorem dX5_volume_46 : decode cX5_volume 46 = .ok (.aload_n 0, 1) := by decide +kernel
theorem dX5_volume_47 : decode cX5_volume 47 = .ok (.getfield 10, 3) := by decide +kernel
theorem dX5_volume_50 : decode cX5_volume 50 = .ok (.getfield 67, 3) := by decide +kernel
theorem dX5_volume_53 : decode cX5_volume 53 = .ok (.iload_n 1, 1) := by decide +kernel
theorem dX5_volume_54 : decode cX5_volume 54 = .ok (.aaload, 1) := by decide +kernel
theorem dX5_volume_55 : decode cX5_volume 55 = .ok (.iload_n 2, 1) := by decide +kernel
theorem dX5_volume_56 : decode cX5_volume 56 = .ok (.putfield 83, 3) := by decide +kernel
theorem dX5_volume_59 : decode cX5_volume 59 = .ok (.iload_n 3, 1) := by decide +kernel
theorem dX5_volume_60 : decode cX5_volume 60 = .ok (.ireturn, 1) := by decide +kernel
set_option maxRecDepth 20000 in
theorem ggX5_turn_X5_isNoWheel : GoodIn wsX5_turn wsX5_isNoWheel := goodIn_r _ [8, 9, 10, 7, 11] (by decide +kernel) (by decide +kernel)
set_option maxRecDepth 20000 in
theorem gX5_turn_X5_isNoWheel : GoodIn wsX5_turn (va_wsS RX5 63 yX5_isNoWheel wsX5_isNoWheel) := goodIn_app (goodIn_of _ (by decide +kernel)) ggX5_turn_X5_isNoWheel
set_option maxRecDepth 20000 in
theorem ggX5_turn_X0_keep : GoodIn wsX5_turn wsX0_keep := goodIn_r _ [16, 17, 18, 19, 20, 21, 22, 23, 24, 25, 26, 27, 28, 29, 30, 31, 32, 33, 34, 35, 36, 37, 38, 39, 40, 41, 42, 43, 44, 45, 46, 47, 48, 49, 50, 51, 52, 53, 54, 55, 56, 57, 58, 59, 60, 96, 97, 98, 78, 79, 80, 81, 82, 83, 84, 85, 86, 87, 88, 89, 90, 91, 92, 93, 94, 95] (by decide +kernel) (by decide +kernel)
set_option maxRecDepth 20000 in
theorem gX5_turn_X0_keep : GoodIn wsX5_turn (wsV RX5 44 RX0 yX0_keep wsX0_keep) := goodIn_app (goodIn_of _ (by decide +kernel)) ggX5_turn_X0_keep
set_option maxRecDepth 20000 in
theorem ggX5_turn_X3_maskOfOn : GoodIn wsX5_turn wsX3_maskOfOn := goodIn_r _ [64, 39, 65, 78, 79, 80, 81, 82, 83, 84, 85, 86, 87, 88, 89, 90, 91, 92, 93, 94, 95] (by decide +kernel) (by decide +kernel)
set_option maxRecDepth 20000 in
theorem gX5_turn_X3_maskOfOn : GoodIn wsX5_turn (wsV RX5 90 RX3 yX3_maskOfOn wsX3_maskOfOn) := goodIn_app (goodIn_of _ (by decide +kernel)) ggX5_turn_X3_maskOfOn
set_option maxRecDepth 20000 in
theorem ggX5_turn_J6_bitCount_0f7a4 : GoodIn wsX5_turn wsJ6_bitCount_0f7a4 := goodIn_r _ [69, 70, 71, 72] (by decide +kernel) (by decide +kernel)
set_option maxRecDepth 20000 in
theorem gX5_turn_J6_bitCount_0f7a4 : GoodIn wsX5_turn (va_wsS RX5 94 yJ6_bitCount_0f7a4 wsJ6_bitCount_0f7a4) := goodIn_app (goodIn_of _ (by decide +kernel)) ggX5_turn_J6_bitCount_0f7a4
theorem dX5_turn_0 : decode cX5_turn 0 = .ok (.iload_n 1, 1) := by decide +kernel
theorem dX5_turn_1 : decode cX5_turn 1 = .ok (.invokestatic 63, 3) := by decide +kernel
theorem dX5_turn_4 : decode cX5_turn 4 = .ok (.ifCond .eq 5, 3) := by decide +kernel
theorem dX5_turn_7 : decode cX5_turn 7 = .ok (.iconst (-1), 1) := by decide +kernel
theorem dX5_turn_8 : decode cX5_turn 8 = .ok (.ireturn, 1) := by decide +kernel
theorem dX5_turn_9 : decode cX5_turn 9 = .ok (.aload_n 0, 1) := by decide +kernel
theorem dX5_turn_10 : decode cX5_turn 10 = .ok (.getfield 10, 3) := by decide +kernel
theorem dX5_turn_13 : decode cX5_turn 13 = .ok (.getfield 67, 3) := by decide +kernel
theorem dX5_turn_16 : decode cX5_turn 16 = .ok (.iload_n 1, 1) := by decide +kernel
theorem dX5_turn_17 : decode cX5_turn 17 = .ok (.aaload, 1) := by decide +kernel
theorem dX5_turn_18 : decode cX5_turn 18 = .ok (.getfield 86, 3) := by decide +kernel
theorem dX5_turn_21 : decode cX5_turn 21 = .ok (.iload_n 2, 1) := by decide +kernel
theorem dX5_turn_22 : decode cX5_turn 22 = .ok (.if_icmp .ne 6, 3) := by decide +kernel
theorem dX5_turn_25 : decode cX5_turn 25 = .ok (.bipush (-5), 2) := by decide +kernel
theorem dX5_turn_27 : decode cX5_turn 27 = .ok (.ireturn, 1) := by decide +kernel
theorem dX5_turn_28 : decode cX5_turn 28 = .ok (.aload_n 0, 1) := by decide +kernel
theorem dX5_turn_29 : decode cX5_turn 29 = .ok (.getfield 22, 3) := by decide +kernel
theorem dX5_turn_32 : decode cX5_turn 32 = .ok (.aload_n 0, 1) := by decide +kernel
theorem dX5_turn_33 : decode cX5_turn 33 = .ok (.getfield 10, 3) := by decide +kernel
theorem dX5_turn_36 : decode cX5_turn 36 = .ok (.invokevirtual 44, 3) := by decide +kernel
theorem dX5_turn_39 : decode cX5_turn 39 = .ok (.aload_n 0, 1) := by decide +kernel
theorem dX5_turn_40 : decode cX5_turn 40 = .ok (.getfield 10, 3) := by decide +kernel
theorem dX5_turn_43 : decode cX5_turn 43 = .ok (.getfield 67, 3) := by decide +kernel
theorem dX5_turn_46 : decode cX5_turn 46 = .ok (.iload_n 1, 1) := by decide +kernel
theorem dX5_turn_47 : decode cX5_turn 47 = .ok (.aaload, 1) := by decide +kernel
theorem dX5_turn_48 : decode cX5_turn 48 = .ok (.iload_n 2, 1) := by decide +kernel
theorem dX5_turn_49 : decode cX5_turn 49 = .ok (.putfield 86, 3) := by decide +kernel
theorem dX5_turn_52 : decode cX5_turn 52 = .ok (.aload_n 0, 1) := by decide +kernel
theorem dX5_turn_53 : decode cX5_turn 53 = .ok (.getfield 10, 3) := by decide +kernel
theorem dX5_turn_56 : decode cX5_turn 56 = .ok (.invokevirtual 90, 3) := by decide +kernel
theorem dX5_turn_59 : decode cX5_turn 59 = .ok (.invokestatic 94, 3) := by decide +kernel
theorem dX5_turn_62 : decode cX5_turn 62 = .ok (.ireturn, 1) := by decide +kernel
set_option maxRecDepth 20000 in
theorem ggX5_phase_X5_isNoWheel : GoodIn wsX5_phase wsX5_isNoWheel := goodIn_r _ [9, 10, 11, 8, 12] (by decide +kernel) (by decide +kernel)
set_option maxRecDepth 20000 in
theorem gX5_phase_X5_isNoWheel : GoodIn wsX5_phase (va_wsS RX5 63 yX5_isNoWheel wsX5_isNoWheel) := goodIn_app (goodIn_of _ (by decide +kernel)) ggX5_phase_X5_isNoWheel
set_option maxRecDepth 20000 in
theorem ggX5_phase_X5_isOutside : GoodIn wsX5_phase wsX5_isOutside := goodIn_r _ [12] (by decide +kernel) (by decide +kernel)
set_option maxRecDepth 20000 in
theorem gX5_phase_X5_isOutside : GoodIn wsX5_phase (va_wsS RX5 40 yX5_isOutside wsX5_isOutside) := goodIn_app (goodIn_of _ (by decide +kernel)) ggX5_phase_X5_isOutside
set_option maxRecDepth 20000 in
theorem ggX5_phase_X0_keep : GoodIn wsX5_phase wsX0_keep := goodIn_r _ [17, 18, 19, 20, 21, 22, 23, 24, 25, 26, 27, 28, 29, 30, 31, 32, 33, 34, 35, 36, 37, 38, 39, 40, 41, 42, 43, 44, 45, 46, 47, 48, 49, 50, 51, 52, 53, 54, 55, 56, 57, 58, 59, 60, 61, 85, 86, 87, 67, 68, 69, 70, 71, 72, 73, 74, 75, 76, 77, 78, 79, 80, 81, 82, 83, 84] (by decide +kernel) (by decide +kernel)
set_option maxRecDepth 20000 in
theorem gX5_phase_X0_keep : GoodIn wsX5_phase (wsV RX5 44 RX0 yX0_keep wsX0_keep) := goodIn_app (goodIn_of _ (by decide +kernel)) ggX5_phase_X0_keep
theorem dX5_phase_0 : decode cX5_phase 0 = .ok (.iload_n 1, 1) := by decide +kernel
theorem dX5_phase_1 : decode cX5_phase 1 = .ok (.invokestatic 63, 3) := by decide +kernel
theorem dX5_phase_4 : decode cX5_phase 4 = .ok (.ifCond .eq 5, 3) := by decide +kernel
theorem dX5_phase_7 : decode cX5_phase 7 = .ok (.iconst (-1), 1) := by decide +kernel
theorem dX5_phase_8 : decode cX5_phase 8 = .ok (.ireturn, 1) := by decide +kernel
theorem dX5_phase_9 : decode cX5_phase 9 = .ok (.iload_n 2, 1) := by decide +kernel
theorem dX5_phase_10 : decode cX5_phase 10 = .ok (.iconst 0, 1) := by decide +kernel
theorem dX5_phase_11 : decode cX5_phase 11 = .ok (.ldc 66, 2) := by decide +kernel
theorem dX5_phase_13 : decode cX5_phase 13 = .ok (.invokestatic 40, 3) := by decide +kernel
theorem dX5_phase_16 : decode cX5_phase 16 = .ok (.ifCond .eq 6, 3) := by decide +kernel
theorem dX5_phase_19 : decode cX5_phase 19 = .ok (.bipush (-2), 2) := by decide +kernel
theorem dX5_phase_21 : decode cX5_phase 21 = .ok (.ireturn, 1) := by decide +kernel
theorem dX5_phase_22 : decode cX5_phase 22 = .ok (.aload_n 0, 1) := by decide +kernel
theorem dX5_phase_23 : decode cX5_phase 23 = .ok (.getfield 22, 3) := by decide +kernel
theorem dX5_phase_26 : decode cX5_phase 26 = .ok (.aload_n 0, 1) := by decide +kernel
theorem dX5_phase_27 : decode cX5_phase 27 = .ok (.getfield 10, 3) := by decide +kernel
theorem dX5_phase_30 : decode cX5_phase 30 = .ok (.invokevirtual 44, 3) := by decide +kernel
theorem dX5_phase_33 : decode cX5_phase 33 = .ok (.aload_n 0, 1) := by decide +kernel
theorem dX5_phase_34 : decode cX5_phase 34 = .ok (.getfield 10, 3) := by decide +kernel
theorem dX5_phase_37 : decode cX5_phase 37 = .ok (.getfield 67, 3) := by decide +kernel
theorem dX5_phase_40 : decode cX5_phase 40 = .ok (.iload_n 1, 1) := by decide +kernel
theorem dX5_phase_41 : decode cX5_phase 41 = .ok (.aaload, 1) := by decide +kernel
theorem dX5_phase_42 : decode cX5_phase 42 = .ok (.getfield 100, 3) := by decide +kernel
theorem dX5_phase_45 : decode cX5_phase 45 = .ok (.istore_n 3, 1) := by decide +kernel
theorem dX5_phase_46 : decode cX5_phase 46 = .ok (.aload_n 0, 1) := by decide +kernel
theorem dX5_phase_47 : decode cX5_phase 47 = .ok (.getfield 10, 3) := by decide +kernel
theorem dX5_phase_50 : decode cX5_phase 50 = .ok (.getfield 67, 3) := by decide +kernel
theorem dX5_phase_53 : decode cX5_phase 53 = .ok (.iload_n 1, 1) := by decide +kernel
theorem dX5_phase_54 : decode cX5_phase 54 = .ok (.aaload, 1) := by decide +kernel
theorem dX5_phase_55 : decode cX5_phase 55 = .ok (.iload_n 2, 1) := by decide +kernel
theorem dX5_phase_56 : decode cX5_phase 56 = .ok (.putfield 100, 3) := by decide +kernel
theorem dX5_phase_59 : decode cX5_phase 59 = .ok (.iload_n 3, 1) := by decide +kernel
theorem dX5_phase_60 : decode cX5_phase 60 = .ok (.ireturn, 1) := by decide +kernel
set_option maxRecDepth 20000 in
theorem ggX5_sweep_X5_isNoWheel : GoodIn wsX5_sweep wsX5_isNoWheel := goodIn_r _ [9, 10, 11, 8, 12] (by decide +kernel) (by decide +kernel)
set_option maxRecDepth 20000 in
theorem gX5_sweep_X5_isNoWheel : GoodIn wsX5_sweep (va_wsS RX5 63 yX5_isNoWheel wsX5_isNoWheel) := goodIn_app (goodIn_of _ (by decide +kernel)) ggX5_sweep_X5_isNoWheel
set_option maxRecDepth 20000 in
theorem ggX5_sweep_X5_isOutside : GoodIn wsX5_sweep wsX5_isOutside := goodIn_r _ [12] (by decide +kernel) (by decide +kernel)
set_option maxRecDepth 20000 in
theorem gX5_sweep_X5_isOutside : GoodIn wsX5_sweep (va_wsS RX5 40 yX5_isOutside wsX5_isOutside) := goodIn_app (goodIn_of _ (by decide +kernel)) ggX5_sweep_X5_isOutside
set_option maxRecDepth 20000 in
theorem ggX5_sweep_X0_keep : GoodIn wsX5_sweep wsX0_keep := goodIn_r _ [17, 18, 19, 20, 21, 22, 23, 24, 25, 26, 27, 28, 29, 30, 31, 32, 33, 34, 35, 36, 37, 38, 39, 40, 41, 42, 43, 44, 45, 46, 47, 48, 49, 50, 51, 52, 53, 54, 55, 56, 57, 58, 59, 60, 61, 93, 94, 95, 75, 76, 77, 78, 79, 80, 81, 82, 83, 84, 85, 86, 87, 88, 89, 90, 91, 92] (by decide +kernel) (by decide +kernel)
set_option maxRecDepth 20000 in
theorem gX5_sweep_X0_keep : GoodIn wsX5_sweep (wsV RX5 44 RX0 yX0_keep wsX0_keep) := goodIn_app (goodIn_of _ (by decide +kernel)) ggX5_sweep_X0_keep
set_option maxRecDepth 20000 in
theorem ggX5_sweep_X4_addSweep : GoodIn wsX5_sweep wsX4_addSweep := goodIn_r _ [65, 56, 57, 59, 66, 67, 68, 49, 69, 52, 60, 61, 83, 84, 85, 86, 87, 88, 89, 90, 91, 92] (by decide +kernel) (by decide +kernel)
set_option maxRecDepth 20000 in
theorem gX5_sweep_X4_addSweep : GoodIn wsX5_sweep (wsV RX5 106 RX4 yX4_addSweep wsX4_addSweep) := goodIn_app (goodIn_of _ (by decide +kernel)) ggX5_sweep_X4_addSweep
theorem dX5_sweep_0 : decode cX5_sweep 0 = .ok (.iload_n 1, 1) := by decide +kernel
theorem dX5_sweep_1 : decode cX5_sweep 1 = .ok (.invokestatic 63, 3) := by decide +kernel
theorem dX5_sweep_4 : decode cX5_sweep 4 = .ok (.ifCond .eq 5, 3) := by decide +kernel
theorem dX5_sweep_7 : decode cX5_sweep 7 = .ok (.iconst (-1), 1) := by decide +kernel
theorem dX5_sweep_8 : decode cX5_sweep 8 = .ok (.ireturn, 1) := by decide +kernel
theorem dX5_sweep_9 : decode cX5_sweep 9 = .ok (.iload_n 2, 1) := by decide +kernel
theorem dX5_sweep_10 : decode cX5_sweep 10 = .ok (.iconst 0, 1) := by decide +kernel
theorem dX5_sweep_11 : decode cX5_sweep 11 = .ok (.ldc 66, 2) := by decide +kernel
theorem dX5_sweep_13 : decode cX5_sweep 13 = .ok (.invokestatic 40, 3) := by decide +kernel
theorem dX5_sweep_16 : decode cX5_sweep 16 = .ok (.ifCond .ne 14, 3) := by decide +kernel
theorem dX5_sweep_19 : decode cX5_sweep 19 = .ok (.iload_n 3, 1) := by decide +kernel
theorem dX5_sweep_20 : decode cX5_sweep 20 = .ok (.iconst 1, 1) := by decide +kernel
theorem dX5_sweep_21 : decode cX5_sweep 21 = .ok (.sipush 999, 3) := by decide +kernel
theorem dX5_sweep_24 : decode cX5_sweep 24 = .ok (.invokestatic 40, 3) := by decide +kernel
theorem dX5_sweep_27 : decode cX5_sweep 27 = .ok (.ifCond .eq 6, 3) := by decide +kernel
theorem dX5_sweep_30 : decode cX5_sweep 30 = .ok (.bipush (-2), 2) := by decide +kernel
theorem dX5_sweep_32 : decode cX5_sweep 32 = .ok (.ireturn, 1) := by decide +kernel
theorem dX5_sweep_33 : decode cX5_sweep 33 = .ok (.aload_n 0, 1) := by decide +kernel
theorem dX5_sweep_34 : decode cX5_sweep 34 = .ok (.getfield 10, 3) := by decide +kernel
theorem dX5_sweep_37 : decode cX5_sweep 37 = .ok (.getfield 67, 3) := by decide +kernel
theorem dX5_sweep_40 : decode cX5_sweep 40 = .ok (.iload_n 1, 1) := by decide +kernel
theorem dX5_sweep_41 : decode cX5_sweep 41 = .ok (.aaload, 1) := by decide +kernel
theorem dX5_sweep_42 : decode cX5_sweep 42 = .ok (.getfield 103, 3) := by decide +kernel
theorem dX5_sweep_45 : decode cX5_sweep 45 = .ok (.iconst 4, 1) := by decide +kernel
theorem dX5_sweep_46 : decode cX5_sweep 46 = .ok (.if_icmp .lt 6, 3) := by decide +kernel
theorem dX5_sweep_49 : decode cX5_sweep 49 = .ok (.bipush (-4), 2) := by decide +kernel
theorem dX5_sweep_51 : decode cX5_sweep 51 = .ok (.ireturn, 1) := by decide +kernel
theorem dX5_sweep_52 : decode cX5_sweep 52 = .ok (.aload_n 0, 1) := by decide +kernel
theorem dX5_sweep_53 : decode cX5_sweep 53 = .ok (.getfield 22, 3) := by decide +kernel
theorem dX5_sweep_56 : decode cX5_sweep 56 = .ok (.aload_n 0, 1) := by decide +kernel
theorem dX5_sweep_57 : decode cX5_sweep 57 = .ok (.getfield 10, 3) := by decide +kernel
theorem dX5_sweep_60 : decode cX5_sweep 60 = .ok (.invokevirtual 44, 3) := by decide +kernel
theorem dX5_sweep_63 : decode cX5_sweep 63 = .ok (.aload_n 0, 1) := by decide +kernel
theorem dX5_sweep_64 : decode cX5_sweep 64 = .ok (.getfield 10, 3) := by decide +kernel
theorem dX5_sweep_67 : decode cX5_sweep 67 = .ok (.getfield 67, 3) := by decide +kernel
theorem dX5_sweep_70 : decode cX5_sweep 70 = .ok (.iload_n 1, 1) := by decide +kernel
theorem dX5_sweep_71 : decode cX5_sweep 71 = .ok (.aaload, 1) := by decide +kernel
theorem dX5_sweep_72 : decode cX5_sweep 72 = .ok (.iload_n 2, 1) := by decide +kernel
theorem dX5_sweep_73 : decode cX5_sweep 73 = .ok (.iload_n 3, 1) := by decide +kernel
theorem dX5_sweep_74 : decode cX5_sweep 74 = .ok (.invokevirtual 106, 3) := by decide +kernel
theorem dX5_sweep_77 : decode cX5_sweep 77 = .ok (.pop, 1) := by decide +kernel
theorem dX5_sweep_78 : decode cX5_sweep 78 = .ok (.aload_n 0, 1) := by decide +kernel
theorem dX5_sweep_79 : decode cX5_sweep 79 = .ok (.getfield 10, 3) := by decide +kernel
theorem dX5_sweep_82 : decode cX5_sweep 82 = .ok (.getfield 67, 3) := by decide +kernel
theorem dX5_sweep_85 : decode cX5_sweep 85 = .ok (.iload_n 1, 1) := by decide +kernel
theorem dX5_sweep_86 : decode cX5_sweep 86 = .ok (.aaload, 1) := by decide +kernel
theorem dX5_sweep_87 : decode cX5_sweep 87 = .ok (.getfield 103, 3) := by decide +kernel
theorem dX5_sweep_90 : decode cX5_sweep 90 = .ok (.ireturn, 1) := by decide +kernel
set_option maxRecDepth 20000 in
theorem ggX5_make_X5_isOutside : GoodIn wsX5_make wsX5_isOutside := goodIn_r _ [6] (by decide +kernel) (by decide +kernel)
set_option maxRecDepth 20000 in
theorem gX5_make_X5_isOutside : GoodIn wsX5_make (va_wsS RX5 40 yX5_isOutside wsX5_isOutside) := goodIn_app (goodIn_of _ (by decide +kernel)) ggX5_make_X5_isOutside
set_option maxRecDepth 20000 in
theorem ggX5_make_X3_hasNoRoomFor : GoodIn wsX5_make wsX3_hasNoRoomFor := goodIn_r _ [11, 12, 13, 116, 117, 118, 119, 120, 121, 122, 123] (by decide +kernel) (by decide +kernel)
set_option maxRecDepth 20000 in
theorem gX5_make_X3_hasNoRoomFor : GoodIn wsX5_make (wsV RX5 110 RX3 yX3_hasNoRoomFor wsX3_hasNoRoomFor) := goodIn_app (goodIn_of _ (by decide +kernel)) ggX5_make_X3_hasNoRoomFor
set_option maxRecDepth 20000 in
theorem ggX5_make_X0_keep : GoodIn wsX5_make wsX0_keep := goodIn_r _ [18, 19, 20, 21, 22, 23, 24, 25, 26, 27, 28, 29, 30, 31, 32, 10, 33, 34, 35, 36, 37, 38, 39, 40, 13, 41, 42, 43, 44, 45, 46, 47, 48, 49, 50, 51, 52, 53, 54, 55, 56, 57, 58, 59, 60, 124, 125, 126, 116, 117, 118, 119, 120, 121, 122, 123, 127, 128, 129, 130, 131, 132, 133, 134, 135, 136] (by decide +kernel) (by decide +kernel)
set_option maxRecDepth 20000 in
theorem gX5_make_X0_keep : GoodIn wsX5_make (wsV RX5 44 RX0 yX0_keep wsX0_keep) := goodIn_app (goodIn_of _ (by decide +kernel)) ggX5_make_X0_keep
set_option maxRecDepth 20000 in
theorem ggX5_make_X3_makeSome : GoodIn wsX5_make wsX3_makeSome := goodIn_r _ [64, 65, 8, 9, 10, 11, 12, 13, 66, 67, 68, 69, 34, 41, 70, 23, 24, 25, 40, 71, 72, 73, 74, 75, 76, 77, 78, 79, 80, 81, 35, 82, 83, 84, 85, 86, 43, 42, 87, 44, 88, 89, 90, 91, 92, 27, 28, 29, 93, 94, 95, 48, 96, 50, 51, 97, 55, 98, 99, 100, 101, 58, 60, 59, 56, 102, 103, 104, 105, 106, 107, 108, 109, 116, 117, 118, 119, 120, 121, 122, 123, 127, 128, 129, 130, 131, 132, 133, 134, 135, 136] (by decide +kernel) (by decide +kernel)
set_option maxRecDepth 20000 in
theorem gX5_make_X3_makeSome : GoodIn wsX5_make (wsV RX5 113 RX3 yX3_makeSome wsX3_makeSome) := goodIn_app (goodIn_of _ (by decide +kernel)) ggX5_make_X3_makeSome
set_option maxRecDepth 20000 in
theorem ggX5_make_X3_mixtureAgo : GoodIn wsX5_make wsX3_mixtureAgo := goodIn_r _ [91, 44, 13, 92, 27, 28, 29, 116, 117, 118, 119, 120, 121, 122, 123] (by decide +kernel) (by decide +kernel)
set_option maxRecDepth 20000 in
theorem gX5_make_X3_mixtureAgo : GoodIn wsX5_make (wsV RX5 116 RX3 yX3_mixtureAgo wsX3_mixtureAgo) := goodIn_app (goodIn_of _ (by decide +kernel)) ggX5_make_X3_mixtureAgo
theorem dX5_make_0 : decode cX5_make 0 = .ok (.iload_n 1, 1) := by decide +kernel
theorem dX5_make_1 : decode cX5_make 1 = .ok (.iconst 1, 1) := by decide +kernel
theorem dX5_make_2 : decode cX5_make 2 = .ok (.sipush 999, 3) := by decide +kernel
theorem dX5_make_5 : decode cX5_make 5 = .ok (.invokestatic 40, 3) := by decide +kernel
theorem dX5_make_8 : decode cX5_make 8 = .ok (.ifCond .eq 6, 3) := by decide +kernel
theorem dX5_make_11 : decode cX5_make 11 = .ok (.bipush (-2), 2) := by decide +kernel
theorem dX5_make_13 : decode cX5_make 13 = .ok (.ireturn, 1) := by decide +kernel
theorem dX5_make_14 : decode cX5_make 14 = .ok (.aload_n 0, 1) := by decide +kernel
theorem dX5_make_15 : decode cX5_make 15 = .ok (.getfield 10, 3) := by decide +kernel
theorem dX5_make_18 : decode cX5_make 18 = .ok (.iload_n 1, 1) := by decide +kernel
theorem dX5_make_19 : decode cX5_make 19 = .ok (.invokevirtual 110, 3) := by decide +kernel
theorem dX5_make_22 : decode cX5_make 22 = .ok (.ifCond .eq 6, 3) := by decide +kernel
theorem dX5_make_25 : decode cX5_make 25 = .ok (.bipush (-4), 2) := by decide +kernel
theorem dX5_make_27 : decode cX5_make 27 = .ok (.ireturn, 1) := by decide +kernel
theorem dX5_make_28 : decode cX5_make 28 = .ok (.aload_n 0, 1) := by decide +kernel
theorem dX5_make_29 : decode cX5_make 29 = .ok (.getfield 22, 3) := by decide +kernel
theorem dX5_make_32 : decode cX5_make 32 = .ok (.aload_n 0, 1) := by decide +kernel
theorem dX5_make_33 : decode cX5_make 33 = .ok (.getfield 10, 3) := by decide +kernel
theorem dX5_make_36 : decode cX5_make 36 = .ok (.invokevirtual 44, 3) := by decide +kernel
theorem dX5_make_39 : decode cX5_make 39 = .ok (.aload_n 0, 1) := by decide +kernel
theorem dX5_make_40 : decode cX5_make 40 = .ok (.getfield 10, 3) := by decide +kernel
theorem dX5_make_43 : decode cX5_make 43 = .ok (.iload_n 1, 1) := by decide +kernel
theorem dX5_make_44 : decode cX5_make 44 = .ok (.invokevirtual 113, 3) := by decide +kernel
theorem dX5_make_47 : decode cX5_make 47 = .ok (.pop, 1) := by decide +kernel
theorem dX5_make_48 : decode cX5_make 48 = .ok (.aload_n 0, 1) := by decide +kernel
theorem dX5_make_49 : decode cX5_make 49 = .ok (.getfield 10, 3) := by decide +kernel
theorem dX5_make_52 : decode cX5_make 52 = .ok (.iconst 0, 1) := by decide +kernel
theorem dX5_make_53 : decode cX5_make 53 = .ok (.invokevirtual 116, 3) := by decide +kernel
theorem dX5_make_56 : decode cX5_make 56 = .ok (.ireturn, 1) := by decide +kernel
set_option maxRecDepth 20000 in
theorem ggX5_run_X1_findFault : GoodIn wsX5_run wsX1_findFault := goodIn_r _ [10, 11, 12, 13, 14, 15, 9, 16, 17, 18, 19, 20, 21, 22, 23, 24, 25, 26, 27, 28, 29, 30, 31, 32, 33, 34, 35, 36, 37, 38, 39, 40, 41, 42, 43, 44, 45, 46, 47, 48, 49, 183, 184, 185, 186, 187, 188, 189] (by decide +kernel) (by decide +kernel)
set_option maxRecDepth 20000 in
theorem gX5_run_X1_findFault : GoodIn wsX5_run (wsV RX5 119 RX1 yX1_findFault wsX1_findFault) := goodIn_app (goodIn_of _ (by decide +kernel)) ggX5_run_X1_findFault
set_option maxRecDepth 20000 in
theorem ggX5_run_X0_keep : GoodIn wsX5_run wsX0_keep := goodIn_r _ [54, 55, 56, 57, 58, 59, 60, 61, 62, 63, 64, 65, 66, 67, 68, 69, 70, 71, 72, 73, 74, 75, 76, 77, 78, 79, 80, 81, 82, 83, 84, 85, 86, 87, 88, 89, 90, 91, 92, 93, 94, 95, 96, 97, 98, 190, 191, 192, 193, 194, 195, 196, 197, 198, 199, 200, 201, 202, 203, 204, 205, 206, 207, 208, 209, 210] (by decide +kernel) (by decide +kernel)
set_option maxRecDepth 20000 in
theorem gX5_run_X0_keep : GoodIn wsX5_run (wsV RX5 44 RX0 yX0_keep wsX0_keep) := goodIn_app (goodIn_of _ (by decide +kernel)) ggX5_run_X0_keep
set_option maxRecDepth 20000 in
theorem ggX5_run_X1_readOrder : GoodIn wsX5_run wsX1_readOrder := goodIn_r _ [16, 17, 18, 19, 11, 20, 21, 22, 9, 23, 24, 25, 26, 27, 12, 28, 29, 30, 31, 32, 33, 34, 35, 36, 37, 38, 39, 40, 41, 42, 43, 44, 45, 46, 47, 48, 49, 183, 184, 185, 186, 187, 188, 189] (by decide +kernel) (by decide +kernel)
set_option maxRecDepth 20000 in
theorem gX5_run_X1_readOrder : GoodIn wsX5_run (wsV RX5 125 RX1 yX1_readOrder wsX1_readOrder) := goodIn_app (goodIn_of _ (by decide +kernel)) ggX5_run_X1_readOrder
set_option maxRecDepth 20000 in
theorem ggX5_run_X5_doOrder : GoodIn wsX5_run wsX5_doOrder := goodIn_r _ [103, 1, 104, 3, 105, 106, 107, 108, 109, 110, 111, 112, 113, 114, 69, 115, 116, 117, 118, 119, 120, 78, 121, 122, 123, 124, 71, 79, 125, 59, 60, 61, 77, 126, 127, 128, 129, 130, 131, 132, 133, 134, 135, 136, 72, 137, 138, 139, 140, 141, 81, 80, 142, 82, 143, 144, 145, 146, 147, 63, 64, 65, 148, 149, 150, 86, 151, 88, 89, 152, 93, 153, 154, 155, 156, 96, 98, 97, 94, 157, 158, 159, 160, 161, 162, 163, 164, 165, 166, 43, 167, 168, 42, 44, 169, 170, 171, 172, 173, 174, 175, 176, 178, 179, 180, 181, 182, 183, 184, 185, 186, 187, 188, 189, 193, 194, 195, 196, 197, 198, 199, 200, 201, 202, 203, 204, 205, 206, 207, 208, 209, 210] (by decide +kernel) (by decide +kernel)
set_option maxRecDepth 20000 in
theorem gX5_run_X5_doOrder : GoodIn wsX5_run (wsV RX5 129 RX5 yX5_doOrder wsX5_doOrder) := goodIn_app (goodIn_of _ (by decide +kernel)) ggX5_run_X5_doOrder
set_option maxRecDepth 20000 in
theorem ggX5_run_X1_pass : GoodIn wsX5_run wsX1_pass := goodIn_r _ [23, 11, 24, 25, 26, 9, 27, 12, 28, 183, 184, 185, 186, 187, 188, 189] (by decide +kernel) (by decide +kernel)
set_option maxRecDepth 20000 in
theorem gX5_run_X1_pass : GoodIn wsX5_run (wsV RX5 132 RX1 yX1_pass wsX1_pass) := goodIn_app (goodIn_of _ (by decide +kernel)) ggX5_run_X1_pass
theorem dX5_run_0 : decode cX5_run 0 = .ok (.aload_n 0, 1) := by decide +kernel
theorem dX5_run_1 : decode cX5_run 1 = .ok (.getfield 36, 3) := by decide +kernel
theorem dX5_run_4 : decode cX5_run 4 = .ok (.invokevirtual 119, 3) := by decide +kernel
theorem dX5_run_7 : decode cX5_run 7 = .ok (.bipush (-6), 2) := by decide +kernel
theorem dX5_run_9 : decode cX5_run 9 = .ok (.if_icmp .eq 6, 3) := by decide +kernel
theorem dX5_run_12 : decode cX5_run 12 = .ok (.bipush (-3), 2) := by decide +kernel
theorem dX5_run_14 : decode cX5_run 14 = .ok (.ireturn, 1) := by decide +kernel
theorem dX5_run_15 : decode cX5_run 15 = .ok (.aload_n 0, 1) := by decide +kernel
theorem dX5_run_16 : decode cX5_run 16 = .ok (.getfield 22, 3) := by decide +kernel
theorem dX5_run_19 : decode cX5_run 19 = .ok (.aload_n 0, 1) := by decide +kernel
theorem dX5_run_20 : decode cX5_run 20 = .ok (.getfield 10, 3) := by decide +kernel
theorem dX5_run_23 : decode cX5_run 23 = .ok (.invokevirtual 44, 3) := by decide +kernel
theorem dX5_run_26 : decode cX5_run 26 = .ok (.iconst 0, 1) := by decide +kernel
theorem dX5_run_27 : decode cX5_run 27 = .ok (.istore_n 1, 1) := by decide +kernel
theorem dX5_run_28 : decode cX5_run 28 = .ok (.aload_n 0, 1) := by decide +kernel
theorem dX5_run_29 : decode cX5_run 29 = .ok (.getfield 36, 3) := by decide +kernel
theorem dX5_run_32 : decode cX5_run 32 = .ok (.iconst 0, 1) := by decide +kernel
theorem dX5_run_33 : decode cX5_run 33 = .ok (.putfield 122, 3) := by decide +kernel
theorem dX5_run_36 : decode cX5_run 36 = .ok (.iconst 0, 1) := by decide +kernel
theorem dX5_run_37 : decode cX5_run 37 = .ok (.istore_n 2, 1) := by decide +kernel
theorem dX5_run_38 : decode cX5_run 38 = .ok (.iload_n 2, 1) := by decide +kernel
theorem dX5_run_39 : decode cX5_run 39 = .ok (.bipush 60, 2) := by decide +kernel
theorem dX5_run_41 : decode cX5_run 41 = .ok (.if_icmp .ge 39, 3) := by decide +kernel
theorem dX5_run_44 : decode cX5_run 44 = .ok (.aload_n 0, 1) := by decide +kernel
theorem dX5_run_45 : decode cX5_run 45 = .ok (.getfield 36, 3) := by decide +kernel
theorem dX5_run_48 : decode cX5_run 48 = .ok (.invokevirtual 125, 3) := by decide +kernel
theorem dX5_run_51 : decode cX5_run 51 = .ok (.ifCond .eq 29, 3) := by decide +kernel
theorem dX5_run_54 : decode cX5_run 54 = .ok (.aload_n 0, 1) := by decide +kernel
theorem dX5_run_55 : decode cX5_run 55 = .ok (.invokevirtual 129, 3) := by decide +kernel
theorem dX5_run_58 : decode cX5_run 58 = .ok (.ifCond .eq 6, 3) := by decide +kernel
theorem dX5_run_61 : decode cX5_run 61 = .ok (.iinc 1 1, 3) := by decide +kernel
theorem dX5_run_64 : decode cX5_run 64 = .ok (.aload_n 0, 1) := by decide +kernel
theorem dX5_run_65 : decode cX5_run 65 = .ok (.getfield 36, 3) := by decide +kernel
theorem dX5_run_68 : decode cX5_run 68 = .ok (.bipush 59, 2) := by decide +kernel
theorem dX5_run_70 : decode cX5_run 70 = .ok (.invokevirtual 132, 3) := by decide +kernel
theorem dX5_run_73 : decode cX5_run 73 = .ok (.pop, 1) := by decide +kernel
theorem dX5_run_74 : decode cX5_run 74 = .ok (.iinc 2 1, 3) := by decide +kernel
theorem dX5_run_77 : decode cX5_run 77 = .ok (.goto (-39), 3) := by decide +kernel
theorem dX5_run_80 : decode cX5_run 80 = .ok (.aload_n 0, 1) := by decide +kernel
theorem dX5_run_81 : decode cX5_run 81 = .ok (.getfield 36, 3) := by decide +kernel
theorem dX5_run_84 : decode cX5_run 84 = .ok (.iconst 0, 1) := by decide +kernel
theorem dX5_run_85 : decode cX5_run 85 = .ok (.putfield 135, 3) := by decide +kernel
theorem dX5_run_88 : decode cX5_run 88 = .ok (.iload_n 1, 1) := by decide +kernel
theorem dX5_run_89 : decode cX5_run 89 = .ok (.ireturn, 1) := by decide +kernel
set_option maxRecDepth 20000 in
theorem ggX5_wheel_X5_isNoWheel : GoodIn wsX5_wheel wsX5_isNoWheel := goodIn_r _ [12, 13, 14, 11, 15] (by decide +kernel) (by decide +kernel)
set_option maxRecDepth 20000 in
theorem gX5_wheel_X5_isNoWheel : GoodIn wsX5_wheel (va_wsS RX5 63 yX5_isNoWheel wsX5_isNoWheel) := goodIn_app (goodIn_of _ (by decide +kernel)) ggX5_wheel_X5_isNoWheel
set_option maxRecDepth 20000 in
theorem ggX5_wheel_X3_valueGivenBy : GoodIn wsX5_wheel wsX3_valueGivenBy := goodIn_r _ [20, 21, 22, 23, 24, 62, 63, 64, 65, 66, 67, 68, 69, 70, 71, 54, 55, 56, 57, 58, 59, 60, 61] (by decide +kernel) (by decide +kernel)
set_option maxRecDepth 20000 in
theorem gX5_wheel_X3_valueGivenBy : GoodIn wsX5_wheel (wsV RX5 138 RX3 yX3_valueGivenBy wsX3_valueGivenBy) := goodIn_app (goodIn_of _ (by decide +kernel)) ggX5_wheel_X3_valueGivenBy
set_option maxRecDepth 20000 in
theorem ggX5_wheel_X4_image : GoodIn wsX5_wheel wsX4_image := goodIn_r _ [29, 30, 31, 32, 62, 63, 64, 65, 66, 67, 68, 69, 70, 71] (by decide +kernel) (by decide +kernel)
set_option maxRecDepth 20000 in
theorem gX5_wheel_X4_image : GoodIn wsX5_wheel (wsV RX5 142 RX4 yX4_image wsX4_image) := goodIn_app (goodIn_of _ (by decide +kernel)) ggX5_wheel_X4_image
set_option maxRecDepth 20000 in
theorem ggX5_wheel_X4_samplesOfARound : GoodIn wsX5_wheel wsX4_samplesOfARound := goodIn_r _ [36, 30, 32, 62, 63, 64, 65, 66, 67, 68, 69, 70, 71] (by decide +kernel) (by decide +kernel)
set_option maxRecDepth 20000 in
theorem gX5_wheel_X4_samplesOfARound : GoodIn wsX5_wheel (wsV RX5 145 RX4 yX4_samplesOfARound wsX4_samplesOfARound) := goodIn_app (goodIn_of _ (by decide +kernel)) ggX5_wheel_X4_samplesOfARound
set_option maxRecDepth 20000 in
theorem ggX5_wheel_X4_samplesOfSweeps : GoodIn wsX5_wheel wsX4_samplesOfSweeps := goodIn_r _ [40, 41, 42, 43, 62, 63, 64, 65, 66, 67, 68, 69, 70, 71] (by decide +kernel) (by decide +kernel)
set_option maxRecDepth 20000 in
theorem gX5_wheel_X4_samplesOfSweeps : GoodIn wsX5_wheel (wsV RX5 148 RX4 yX4_samplesOfSweeps wsX4_samplesOfSweeps) := goodIn_app (goodIn_of _ (by decide +kernel)) ggX5_wheel_X4_samplesOfSweeps
set_option maxRecDepth 20000 in
theorem ggX5_wheel_X4_lastStep : GoodIn wsX5_wheel wsX4_lastStep := goodIn_r _ [47, 41, 48, 30, 62, 63, 64, 65, 66, 67, 68, 69, 70, 71] (by decide +kernel) (by decide +kernel)
set_option maxRecDepth 20000 in
theorem gX5_wheel_X4_lastStep : GoodIn wsX5_wheel (wsV RX5 151 RX4 yX4_lastStep wsX4_lastStep) := goodIn_app (goodIn_of _ (by decide +kernel)) ggX5_wheel_X4_lastStep
theorem dX5_wheel_0 : decode cX5_wheel 0 = .ok (.iload_n 1, 1) := by decide +kernel
theorem dX5_wheel_1 : decode cX5_wheel 1 = .ok (.invokestatic 63, 3) := by decide +kernel
theorem dX5_wheel_4 : decode cX5_wheel 4 = .ok (.ifCond .eq 5, 3) := by decide +kernel
theorem dX5_wheel_7 : decode cX5_wheel 7 = .ok (.iconst (-1), 1) := by decide +kernel
theorem dX5_wheel_8 : decode cX5_wheel 8 = .ok (.ireturn, 1) := by decide +kernel
theorem dX5_wheel_9 : decode cX5_wheel 9 = .ok (.aload_n 0, 1) := by decide +kernel
theorem dX5_wheel_10 : decode cX5_wheel 10 = .ok (.getfield 10, 3) := by decide +kernel
theorem dX5_wheel_13 : decode cX5_wheel 13 = .ok (.getfield 67, 3) := by decide +kernel
theorem dX5_wheel_16 : decode cX5_wheel 16 = .ok (.iload_n 1, 1) := by decide +kernel
theorem dX5_wheel_17 : decode cX5_wheel 17 = .ok (.aaload, 1) := by decide +kernel
theorem dX5_wheel_18 : decode cX5_wheel 18 = .ok (.astore_n 3, 1) := by decide +kernel
theorem dX5_wheel_19 : decode cX5_wheel 19 = .ok (.iload_n 2, 1) := by decide +kernel
theorem dX5_wheel_20 : decode cX5_wheel 20 = .ok (.tableswitch 127 0 10 #[60, 65, 70, 75, 80, 93, 98, 107, 112, 117, 122], 60) := by decide +kernel
theorem dX5_wheel_80 : decode cX5_wheel 80 = .ok (.aload_n 3, 1) := by decide +kernel
theorem dX5_wheel_81 : decode cX5_wheel 81 = .ok (.getfield 100, 3) := by decide +kernel
theorem dX5_wheel_84 : decode cX5_wheel 84 = .ok (.ireturn, 1) := by decide +kernel
theorem dX5_wheel_85 : decode cX5_wheel 85 = .ok (.aload_n 3, 1) := by decide +kernel
theorem dX5_wheel_86 : decode cX5_wheel 86 = .ok (.getfield 71, 3) := by decide +kernel
theorem dX5_wheel_89 : decode cX5_wheel 89 = .ok (.ireturn, 1) := by decide +kernel
theorem dX5_wheel_90 : decode cX5_wheel 90 = .ok (.aload_n 3, 1) := by decide +kernel
theorem dX5_wheel_91 : decode cX5_wheel 91 = .ok (.getfield 80, 3) := by decide +kernel
theorem dX5_wheel_94 : decode cX5_wheel 94 = .ok (.ireturn, 1) := by decide +kernel
theorem dX5_wheel_95 : decode cX5_wheel 95 = .ok (.aload_n 3, 1) := by decide +kernel
theorem dX5_wheel_96 : decode cX5_wheel 96 = .ok (.getfield 83, 3) := by decide +kernel
theorem dX5_wheel_99 : decode cX5_wheel 99 = .ok (.ireturn, 1) := by decide +kernel
theorem dX5_wheel_100 : decode cX5_wheel 100 = .ok (.aload_n 3, 1) := by decide +kernel
theorem dX5_wheel_101 : decode cX5_wheel 101 = .ok (.getfield 86, 3) := by decide +kernel
theorem dX5_wheel_104 : decode cX5_wheel 104 = .ok (.ifCond .eq 7, 3) := by decide +kernel
theorem dX5_wheel_107 : decode cX5_wheel 107 = .ok (.iconst 1, 1) := by decide +kernel
theorem dX5_wheel_108 : decode cX5_wheel 108 = .ok (.goto 4, 3) := by decide +kernel
theorem dX5_wheel_111 : decode cX5_wheel 111 = .ok (.iconst 0, 1) := by decide +kernel
theorem dX5_wheel_112 : decode cX5_wheel 112 = .ok (.ireturn, 1) := by decide +kernel
theorem dX5_wheel_113 : decode cX5_wheel 113 = .ok (.aload_n 3, 1) := by decide +kernel
theorem dX5_wheel_114 : decode cX5_wheel 114 = .ok (.getfield 103, 3) := by decide +kernel
theorem dX5_wheel_117 : decode cX5_wheel 117 = .ok (.ireturn, 1) := by decide +kernel
theorem dX5_wheel_118 : decode cX5_wheel 118 = .ok (.aload_n 0, 1) := by decide +kernel
theorem dX5_wheel_119 : decode cX5_wheel 119 = .ok (.getfield 10, 3) := by decide +kernel
theorem dX5_wheel_122 : decode cX5_wheel 122 = .ok (.aload_n 3, 1) := by decide +kernel
theorem dX5_wheel_123 : decode cX5_wheel 123 = .ok (.invokevirtual 138, 3) := by decide +kernel
theorem dX5_wheel_126 : decode cX5_wheel 126 = .ok (.ireturn, 1) := by decide +kernel
theorem dX5_wheel_127 : decode cX5_wheel 127 = .ok (.aload_n 3, 1) := by decide +kernel
theorem dX5_wheel_128 : decode cX5_wheel 128 = .ok (.invokevirtual 142, 3) := by decide +kernel
theorem dX5_wheel_131 : decode cX5_wheel 131 = .ok (.ireturn, 1) := by decide +kernel
theorem dX5_wheel_132 : decode cX5_wheel 132 = .ok (.aload_n 3, 1) := by decide +kernel
theorem dX5_wheel_133 : decode cX5_wheel 133 = .ok (.invokevirtual 145, 3) := by decide +kernel
theorem dX5_wheel_136 : decode cX5_wheel 136 = .ok (.ireturn, 1) := by decide +kernel
theorem dX5_wheel_137 : decode cX5_wheel 137 = .ok (.aload_n 3, 1) := by decide +kernel
theorem dX5_wheel_138 : decode cX5_wheel 138 = .ok (.invokevirtual 148, 3) := by decide +kernel
theorem dX5_wheel_141 : decode cX5_wheel 141 = .ok (.ireturn, 1) := by decide +kernel
theorem dX5_wheel_142 : decode cX5_wheel 142 = .ok (.aload_n 3, 1) := by decide +kernel
theorem dX5_wheel_143 : decode cX5_wheel 143 = .ok (.invokevirtual 151, 3) := by decide +kernel
theorem dX5_wheel_146 : decode cX5_wheel 146 = .ok (.ireturn, 1) := by decide +kernel
theorem dX5_wheel_147 : decode cX5_wheel 147 = .ok (.bipush (-2), 2) := by decide +kernel
theorem dX5_wheel_149 : decode cX5_wheel 149 = .ok (.ireturn, 1) := by decide +kernel
set_option maxRecDepth 20000 in
theorem ggX5_valueOf_X5_isNoTable : GoodIn wsX5_valueOf wsX5_isNoTable := goodIn_r _ [6, 7, 8, 5, 9] (by decide +kernel) (by decide +kernel)
set_option maxRecDepth 20000 in
theorem gX5_valueOf_X5_isNoTable : GoodIn wsX5_valueOf (va_wsS RX5 52 yX5_isNoTable wsX5_isNoTable) := goodIn_app (goodIn_of _ (by decide +kernel)) ggX5_valueOf_X5_isNoTable
set_option maxRecDepth 20000 in
theorem ggX5_valueOf_X5_isNoPlace : GoodIn wsX5_valueOf wsX5_isNoPlace := goodIn_r _ [12, 7, 8, 5, 9] (by decide +kernel) (by decide +kernel)
set_option maxRecDepth 20000 in
theorem gX5_valueOf_X5_isNoPlace : GoodIn wsX5_valueOf (va_wsS RX5 56 yX5_isNoPlace wsX5_isNoPlace) := goodIn_app (goodIn_of _ (by decide +kernel)) ggX5_valueOf_X5_isNoPlace
theorem dX5_valueOf_0 : decode cX5_valueOf 0 = .ok (.iload_n 1, 1) := by decide +kernel
theorem dX5_valueOf_1 : decode cX5_valueOf 1 = .ok (.invokestatic 52, 3) := by decide +kernel
theorem dX5_valueOf_4 : decode cX5_valueOf 4 = .ok (.ifCond .ne 10, 3) := by decide +kernel
theorem dX5_valueOf_7 : decode cX5_valueOf 7 = .ok (.iload_n 2, 1) := by decide +kernel
theorem dX5_valueOf_8 : decode cX5_valueOf 8 = .ok (.invokestatic 56, 3) := by decide +kernel
theorem dX5_valueOf_11 : decode cX5_valueOf 11 = .ok (.ifCond .eq 5, 3) := by decide +kernel
theorem dX5_valueOf_14 : decode cX5_valueOf 14 = .ok (.iconst (-1), 1) := by decide +kernel
theorem dX5_valueOf_15 : decode cX5_valueOf 15 = .ok (.ireturn, 1) := by decide +kernel
theorem dX5_valueOf_16 : decode cX5_valueOf 16 = .ok (.aload_n 0, 1) := by decide +kernel
theorem dX5_valueOf_17 : decode cX5_valueOf 17 = .ok (.getfield 10, 3) := by decide +kernel
theorem dX5_valueOf_20 : decode cX5_valueOf 20 = .ok (.getfield 59, 3) := by decide +kernel
theorem dX5_valueOf_23 : decode cX5_valueOf 23 = .ok (.iload_n 1, 1) := by decide +kernel
theorem dX5_valueOf_24 : decode cX5_valueOf 24 = .ok (.bipush 16, 2) := by decide +kernel
theorem dX5_valueOf_26 : decode cX5_valueOf 26 = .ok (.imul, 1) := by decide +kernel
theorem dX5_valueOf_27 : decode cX5_valueOf 27 = .ok (.iload_n 2, 1) := by decide +kernel
theorem dX5_valueOf_28 : decode cX5_valueOf 28 = .ok (.iadd, 1) := by decide +kernel
theorem dX5_valueOf_29 : decode cX5_valueOf 29 = .ok (.iaload, 1) := by decide +kernel
theorem dX5_valueOf_30 : decode cX5_valueOf 30 = .ok (.ireturn, 1) := by decide +kernel
set_option maxRecDepth 20000 in
theorem ggX5_sample_X5_isOutside : GoodIn wsX5_sample wsX5_isOutside := goodIn_r _ [6] (by decide +kernel) (by decide +kernel)
set_option maxRecDepth 20000 in
theorem gX5_sample_X5_isOutside : GoodIn wsX5_sample (va_wsS RX5 40 yX5_isOutside wsX5_isOutside) := goodIn_app (goodIn_of _ (by decide +kernel)) ggX5_sample_X5_isOutside
set_option maxRecDepth 20000 in
theorem ggX5_sample_X3_mixtureAgo : GoodIn wsX5_sample wsX3_mixtureAgo := goodIn_r _ [11, 12, 13, 14, 15, 16, 17, 23, 24, 25, 26, 27, 28, 29, 30] (by decide +kernel) (by decide +kernel)
set_option maxRecDepth 20000 in
theorem gX5_sample_X3_mixtureAgo : GoodIn wsX5_sample (wsV RX5 116 RX3 yX3_mixtureAgo wsX3_mixtureAgo) := goodIn_app (goodIn_of _ (by decide +kernel)) ggX5_sample_X3_mixtureAgo
theorem dX5_sample_0 : decode cX5_sample 0 = .ok (.iload_n 1, 1) := by decide +kernel
theorem dX5_sample_1 : decode cX5_sample 1 = .ok (.iconst 0, 1) := by decide +kernel
theorem dX5_sample_2 : decode cX5_sample 2 = .ok (.bipush 31, 2) := by decide +kernel
theorem dX5_sample_4 : decode cX5_sample 4 = .ok (.invokestatic 40, 3) := by decide +kernel
theorem dX5_sample_7 : decode cX5_sample 7 = .ok (.ifCond .eq 6, 3) := by decide +kernel
theorem dX5_sample_10 : decode cX5_sample 10 = .ok (.bipush (-2), 2) := by decide +kernel
theorem dX5_sample_12 : decode cX5_sample 12 = .ok (.ireturn, 1) := by decide +kernel
theorem dX5_sample_13 : decode cX5_sample 13 = .ok (.iload_n 1, 1) := by decide +kernel
theorem dX5_sample_14 : decode cX5_sample 14 = .ok (.aload_n 0, 1) := by decide +kernel
theorem dX5_sample_15 : decode cX5_sample 15 = .ok (.getfield 10, 3) := by decide +kernel
theorem dX5_sample_18 : decode cX5_sample 18 = .ok (.getfield 154, 3) := by decide +kernel
theorem dX5_sample_21 : decode cX5_sample 21 = .ok (.if_icmp .ge 14, 3) := by decide +kernel
theorem dX5_sample_24 : decode cX5_sample 24 = .ok (.aload_n 0, 1) := by decide +kernel
theorem dX5_sample_25 : decode cX5_sample 25 = .ok (.getfield 10, 3) := by decide +kernel
theorem dX5_sample_28 : decode cX5_sample 28 = .ok (.iload_n 1, 1) := by decide +kernel
theorem dX5_sample_29 : decode cX5_sample 29 = .ok (.invokevirtual 116, 3) := by decide +kernel
theorem dX5_sample_32 : decode cX5_sample 32 = .ok (.goto 5, 3) := by decide +kernel
theorem dX5_sample_35 : decode cX5_sample 35 = .ok (.bipush (-6), 2) := by decide +kernel
theorem dX5_sample_37 : decode cX5_sample 37 = .ok (.ireturn, 1) := by decide +kernel
set_option maxRecDepth 20000 in
theorem ggX5_beat_X5_isNoWheel : GoodIn wsX5_beat wsX5_isNoWheel := goodIn_r _ [10, 11, 12, 9, 13] (by decide +kernel) (by decide +kernel)
set_option maxRecDepth 20000 in
theorem gX5_beat_X5_isNoWheel : GoodIn wsX5_beat (va_wsS RX5 63 yX5_isNoWheel wsX5_isNoWheel) := goodIn_app (goodIn_of _ (by decide +kernel)) ggX5_beat_X5_isNoWheel
set_option maxRecDepth 20000 in
theorem ggX5_beat_X4_image : GoodIn wsX5_beat wsX4_image := goodIn_r _ [18, 19, 20, 21, 35, 36, 37, 38, 39, 40, 41, 42, 43, 44] (by decide +kernel) (by decide +kernel)
set_option maxRecDepth 20000 in
theorem gX5_beat_X4_image : GoodIn wsX5_beat (wsV RX5 142 RX4 yX4_image wsX4_image) := goodIn_app (goodIn_of _ (by decide +kernel)) ggX5_beat_X4_image
theorem dX5_beat_0 : decode cX5_beat 0 = .ok (.iload_n 1, 1) := by decide +kernel
theorem dX5_beat_1 : decode cX5_beat 1 = .ok (.invokestatic 63, 3) := by decide +kernel
theorem dX5_beat_4 : decode cX5_beat 4 = .ok (.ifCond .ne 10, 3) := by decide +kernel
theorem dX5_beat_7 : decode cX5_beat 7 = .ok (.iload_n 2, 1) := by decide +kernel
theorem dX5_beat_8 : decode cX5_beat 8 = .ok (.invokestatic 63, 3) := by decide +kernel
theorem dX5_beat_11 : decode cX5_beat 11 = .ok (.ifCond .eq 5, 3) := by decide +kernel
theorem dX5_beat_14 : decode cX5_beat 14 = .ok (.iconst (-1), 1) := by decide +kernel
theorem dX5_beat_15 : decode cX5_beat 15 = .ok (.ireturn, 1) := by decide +kernel
theorem dX5_beat_16 : decode cX5_beat 16 = .ok (.aload_n 0, 1) := by decide +kernel
theorem dX5_beat_17 : decode cX5_beat 17 = .ok (.getfield 10, 3) := by decide +kernel
theorem dX5_beat_20 : decode cX5_beat 20 = .ok (.getfield 67, 3) := by decide +kernel
theorem dX5_beat_23 : decode cX5_beat 23 = .ok (.iload_n 1, 1) := by decide +kernel
theorem dX5_beat_24 : decode cX5_beat 24 = .ok (.aaload, 1) := by decide +kernel
theorem dX5_beat_25 : decode cX5_beat 25 = .ok (.invokevirtual 142, 3) := by decide +kernel
theorem dX5_beat_28 : decode cX5_beat 28 = .ok (.aload_n 0, 1) := by decide +kernel
theorem dX5_beat_29 : decode cX5_beat 29 = .ok (.getfield 10, 3) := by decide +kernel
theorem dX5_beat_32 : decode cX5_beat 32 = .ok (.getfield 67, 3) := by decide +kernel
theorem dX5_beat_35 : decode cX5_beat 35 = .ok (.iload_n 2, 1) := by decide +kernel
theorem dX5_beat_36 : decode cX5_beat 36 = .ok (.aaload, 1) := by decide +kernel
theorem dX5_beat_37 : decode cX5_beat 37 = .ok (.invokevirtual 142, 3) := by decide +kernel
theorem dX5_beat_40 : decode cX5_beat 40 = .ok (.isub, 1) := by decide +kernel
theorem dX5_beat_41 : decode cX5_beat 41 = .ok (.invokestatic 157, 3) := by decide +kernel
theorem dX5_beat_44 : decode cX5_beat 44 = .ok (.ireturn, 1) := by decide +kernel
set_option maxRecDepth 20000 in
theorem ggX5_count_X3_maskOfOn : GoodIn wsX5_count wsX3_maskOfOn := goodIn_r _ [19, 20, 21, 53, 54, 55, 56, 57, 58, 59, 60, 71, 72, 73, 74, 75, 76, 77, 78, 79, 80] (by decide +kernel) (by decide +kernel)
set_option maxRecDepth 20000 in
theorem gX5_count_X3_maskOfOn : GoodIn wsX5_count (wsV RX5 90 RX3 yX3_maskOfOn wsX3_maskOfOn) := goodIn_app (goodIn_of _ (by decide +kernel)) ggX5_count_X3_maskOfOn
set_option maxRecDepth 20000 in
theorem ggX5_count_X3_sumOfOn : GoodIn wsX5_count wsX3_sumOfOn := goodIn_r _ [25, 20, 21, 26, 27, 28, 18, 29, 30, 31, 32, 33, 53, 54, 55, 56, 57, 58, 59, 60, 71, 72, 73, 74, 75, 76, 77, 78, 79, 80] (by decide +kernel) (by decide +kernel)
set_option maxRecDepth 20000 in
theorem gX5_count_X3_sumOfOn : GoodIn wsX5_count (wsV RX5 165 RX3 yX3_sumOfOn wsX3_sumOfOn) := goodIn_app (goodIn_of _ (by decide +kernel)) ggX5_count_X3_sumOfOn
set_option maxRecDepth 20000 in
theorem ggX5_count_X3_samplesOfARoundOfAll : GoodIn wsX5_count wsX3_samplesOfARoundOfAll := goodIn_r _ [37, 20, 21, 38, 39, 7, 40, 41, 42, 43, 44, 45, 46, 47, 53, 54, 55, 56, 57, 58, 59, 60, 71, 72, 73, 74, 75, 76, 77, 78, 79, 80] (by decide +kernel) (by decide +kernel)
set_option maxRecDepth 20000 in
theorem gX5_count_X3_samplesOfARoundOfAll : GoodIn wsX5_count (wsV RX5 178 RX3 yX3_samplesOfARoundOfAll wsX3_samplesOfARoundOfAll) := goodIn_app (goodIn_of _ (by decide +kernel)) ggX5_count_X3_samplesOfARoundOfAll
theorem dX5_count_0 : decode cX5_count 0 = .ok (.iload_n 1, 1) := by decide +kernel
theorem dX5_count_1 : decode cX5_count 1 = .ok (.tableswitch 145 0 9 #[55, 63, 71, 79, 87, 105, 113, 121, 129, 137], 55) := by decide +kernel
theorem dX5_count_56 : decode cX5_count 56 = .ok (.aload_n 0, 1) := by decide +kernel
theorem dX5_count_57 : decode cX5_count 57 = .ok (.getfield 10, 3) := by decide +kernel
theorem dX5_count_60 : decode cX5_count 60 = .ok (.getfield 48, 3) := by decide +kernel
theorem dX5_count_63 : decode cX5_count 63 = .ok (.ireturn, 1) := by decide +kernel
theorem dX5_count_64 : decode cX5_count 64 = .ok (.aload_n 0, 1) := by decide +kernel
theorem dX5_count_65 : decode cX5_count 65 = .ok (.getfield 10, 3) := by decide +kernel
theorem dX5_count_68 : decode cX5_count 68 = .ok (.getfield 154, 3) := by decide +kernel
theorem dX5_count_71 : decode cX5_count 71 = .ok (.ireturn, 1) := by decide +kernel
theorem dX5_count_72 : decode cX5_count 72 = .ok (.aload_n 0, 1) := by decide +kernel
theorem dX5_count_73 : decode cX5_count 73 = .ok (.getfield 10, 3) := by decide +kernel
theorem dX5_count_76 : decode cX5_count 76 = .ok (.getfield 162, 3) := by decide +kernel
theorem dX5_count_79 : decode cX5_count 79 = .ok (.ireturn, 1) := by decide +kernel
theorem dX5_count_80 : decode cX5_count 80 = .ok (.aload_n 0, 1) := by decide +kernel
theorem dX5_count_81 : decode cX5_count 81 = .ok (.getfield 10, 3) := by decide +kernel
theorem dX5_count_84 : decode cX5_count 84 = .ok (.invokevirtual 90, 3) := by decide +kernel
theorem dX5_count_87 : decode cX5_count 87 = .ok (.ireturn, 1) := by decide +kernel
theorem dX5_count_88 : decode cX5_count 88 = .ok (.aload_n 0, 1) := by decide +kernel
theorem dX5_count_89 : decode cX5_count 89 = .ok (.getfield 10, 3) := by decide +kernel
theorem dX5_count_92 : decode cX5_count 92 = .ok (.invokevirtual 165, 3) := by decide +kernel
theorem dX5_count_95 : decode cX5_count 95 = .ok (.aload_n 0, 1) := by decide +kernel
theorem dX5_count_96 : decode cX5_count 96 = .ok (.getfield 10, 3) := by decide +kernel
theorem dX5_count_99 : decode cX5_count 99 = .ok (.getfield 48, 3) := by decide +kernel
theorem dX5_count_102 : decode cX5_count 102 = .ok (.invokestatic 168, 3) := by decide +kernel
theorem dX5_count_105 : decode cX5_count 105 = .ok (.ireturn, 1) := by decide +kernel
theorem dX5_count_106 : decode cX5_count 106 = .ok (.aload_n 0, 1) := by decide +kernel
theorem dX5_count_107 : decode cX5_count 107 = .ok (.getfield 10, 3) := by decide +kernel
theorem dX5_count_110 : decode cX5_count 110 = .ok (.getfield 172, 3) := by decide +kernel
theorem dX5_count_113 : decode cX5_count 113 = .ok (.ireturn, 1) := by decide +kernel
theorem dX5_count_114 : decode cX5_count 114 = .ok (.aload_n 0, 1) := by decide +kernel
theorem dX5_count_115 : decode cX5_count 115 = .ok (.getfield 10, 3) := by decide +kernel
theorem dX5_count_118 : decode cX5_count 118 = .ok (.getfield 175, 3) := by decide +kernel
theorem dX5_count_121 : decode cX5_count 121 = .ok (.ireturn, 1) := by decide +kernel
theorem dX5_count_122 : decode cX5_count 122 = .ok (.aload_n 0, 1) := by decide +kernel
theorem dX5_count_123 : decode cX5_count 123 = .ok (.getfield 10, 3) := by decide +kernel
theorem dX5_count_126 : decode cX5_count 126 = .ok (.invokevirtual 178, 3) := by decide +kernel
theorem dX5_count_129 : decode cX5_count 129 = .ok (.ireturn, 1) := by decide +kernel
theorem dX5_count_130 : decode cX5_count 130 = .ok (.aload_n 0, 1) := by decide +kernel
theorem dX5_count_131 : decode cX5_count 131 = .ok (.getfield 36, 3) := by decide +kernel
theorem dX5_count_134 : decode cX5_count 134 = .ok (.getfield 135, 3) := by decide +kernel
theorem dX5_count_137 : decode cX5_count 137 = .ok (.ireturn, 1) := by decide +kernel
theorem dX5_count_138 : decode cX5_count 138 = .ok (.aload_n 0, 1) := by decide +kernel
theorem dX5_count_139 : decode cX5_count 139 = .ok (.getfield 22, 3) := by decide +kernel
theorem dX5_count_142 : decode cX5_count 142 = .ok (.getfield 181, 3) := by decide +kernel
theorem dX5_count_145 : decode cX5_count 145 = .ok (.ireturn, 1) := by decide +kernel
theorem dX5_count_146 : decode cX5_count 146 = .ok (.bipush (-2), 2) := by decide +kernel
theorem dX5_count_148 : decode cX5_count 148 = .ok (.ireturn, 1) := by decide +kernel
set_option maxRecDepth 20000 in
theorem ggX5_ifMade_X5_isOutside : GoodIn wsX5_ifMade wsX5_isOutside := goodIn_r _ [14] (by decide +kernel) (by decide +kernel)
set_option maxRecDepth 20000 in
theorem gX5_ifMade_X5_isOutside : GoodIn wsX5_ifMade (va_wsS RX5 40 yX5_isOutside wsX5_isOutside) := goodIn_app (goodIn_of _ (by decide +kernel)) ggX5_ifMade_X5_isOutside
set_option maxRecDepth 20000 in
theorem ggX5_ifMade_X3_takeOver : GoodIn wsX5_ifMade wsX3_takeOver := goodIn_r _ [19, 20, 21, 22, 23, 24, 25, 26, 27, 28, 29, 30, 31, 32, 33, 34, 35, 36, 37, 38, 39, 40, 41, 42, 43, 44, 45, 46, 47, 101, 102, 103, 104, 105, 106, 107, 108, 109, 110, 111, 112, 113, 114, 115, 116, 117, 118] (by decide +kernel) (by decide +kernel)
set_option maxRecDepth 20000 in
theorem gX5_ifMade_X3_takeOver : GoodIn wsX5_ifMade (wsV RX5 184 RX3 yX3_takeOver wsX3_takeOver) := goodIn_app (goodIn_of _ (by decide +kernel)) ggX5_ifMade_X3_takeOver
set_option maxRecDepth 20000 in
theorem ggX5_ifMade_X3_makeOne : GoodIn wsX5_ifMade wsX3_makeOne := goodIn_r _ [51, 20, 28, 52, 8, 5, 9, 26, 53, 54, 55, 56, 18, 57, 58, 59, 60, 61, 62, 63, 21, 64, 65, 66, 67, 68, 27, 30, 29, 69, 31, 70, 71, 72, 73, 74, 75, 76, 77, 78, 79, 80, 35, 81, 37, 38, 82, 42, 83, 84, 85, 86, 45, 47, 46, 43, 87, 88, 89, 90, 91, 92, 93, 94, 101, 102, 103, 104, 105, 106, 107, 108, 109, 110, 111, 112, 113, 114, 115, 116, 117, 118] (by decide +kernel) (by decide +kernel)
set_option maxRecDepth 20000 in
theorem gX5_ifMade_X3_makeOne : GoodIn wsX5_ifMade (wsV RX5 187 RX3 yX3_makeOne wsX3_makeOne) := goodIn_app (goodIn_of _ (by decide +kernel)) ggX5_ifMade_X3_makeOne
set_option maxRecDepth 20000 in
theorem ggX5_ifMade_X3_mixtureAgo : GoodIn wsX5_ifMade wsX3_mixtureAgo := goodIn_r _ [73, 31, 27, 74, 75, 76, 77, 101, 102, 103, 104, 105, 106, 107, 108] (by decide +kernel) (by decide +kernel)
set_option maxRecDepth 20000 in
theorem gX5_ifMade_X3_mixtureAgo : GoodIn wsX5_ifMade (wsV RX5 116 RX3 yX3_mixtureAgo wsX3_mixtureAgo) := goodIn_app (goodIn_of _ (by decide +kernel)) ggX5_ifMade_X3_mixtureAgo
theorem dX5_ifMade_0 : decode cX5_ifMade 0 = .ok (.iload_n 1, 1) := by decide +kernel
theorem dX5_ifMade_1 : decode cX5_ifMade 1 = .ok (.iconst 1, 1) := by decide +kernel
theorem dX5_ifMade_2 : decode cX5_ifMade 2 = .ok (.sipush 2000, 3) := by decide +kernel
theorem dX5_ifMade_5 : decode cX5_ifMade 5 = .ok (.invokestatic 40, 3) := by decide +kernel
theorem dX5_ifMade_8 : decode cX5_ifMade 8 = .ok (.ifCond .ne 12, 3) := by decide +kernel
theorem dX5_ifMade_11 : decode cX5_ifMade 11 = .ok (.iload_n 2, 1) := by decide +kernel
theorem dX5_ifMade_12 : decode cX5_ifMade 12 = .ok (.iconst 0, 1) := by decide +kernel
theorem dX5_ifMade_13 : decode cX5_ifMade 13 = .ok (.iconst 3, 1) := by decide +kernel
theorem dX5_ifMade_14 : decode cX5_ifMade 14 = .ok (.invokestatic 40, 3) := by decide +kernel
theorem dX5_ifMade_17 : decode cX5_ifMade 17 = .ok (.ifCond .eq 6, 3) := by decide +kernel
theorem dX5_ifMade_20 : decode cX5_ifMade 20 = .ok (.bipush (-2), 2) := by decide +kernel
theorem dX5_ifMade_22 : decode cX5_ifMade 22 = .ok (.ireturn, 1) := by decide +kernel
theorem dX5_ifMade_23 : decode cX5_ifMade 23 = .ok (.aload_n 0, 1) := by decide +kernel
theorem dX5_ifMade_24 : decode cX5_ifMade 24 = .ok (.getfield 16, 3) := by decide +kernel
theorem dX5_ifMade_27 : decode cX5_ifMade 27 = .ok (.aload_n 0, 1) := by decide +kernel
theorem dX5_ifMade_28 : decode cX5_ifMade 28 = .ok (.getfield 10, 3) := by decide +kernel
theorem dX5_ifMade_31 : decode cX5_ifMade 31 = .ok (.invokevirtual 184, 3) := by decide +kernel
theorem dX5_ifMade_34 : decode cX5_ifMade 34 = .ok (.iconst 0, 1) := by decide +kernel
theorem dX5_ifMade_35 : decode cX5_ifMade 35 = .ok (.istore_n 3, 1) := by decide +kernel
theorem dX5_ifMade_36 : decode cX5_ifMade 36 = .ok (.sipush 960, 3) := by decide +kernel
theorem dX5_ifMade_39 : decode cX5_ifMade 39 = .ok (.istore 4, 2) := by decide +kernel
theorem dX5_ifMade_41 : decode cX5_ifMade 41 = .ok (.iconst 0, 1) := by decide +kernel
theorem dX5_ifMade_42 : decode cX5_ifMade 42 = .ok (.istore 5, 2) := by decide +kernel
theorem dX5_ifMade_44 : decode cX5_ifMade 44 = .ok (.iload 5, 2) := by decide +kernel
theorem dX5_ifMade_46 : decode cX5_ifMade 46 = .ok (.iload_n 1, 1) := by decide +kernel
theorem dX5_ifMade_47 : decode cX5_ifMade 47 = .ok (.if_icmp .ge 44, 3) := by decide +kernel
theorem dX5_ifMade_50 : decode cX5_ifMade 50 = .ok (.aload_n 0, 1) := by decide +kernel
theorem dX5_ifMade_51 : decode cX5_ifMade 51 = .ok (.getfield 16, 3) := by decide +kernel
theorem dX5_ifMade_54 : decode cX5_ifMade 54 = .ok (.invokevirtual 187, 3) := by decide +kernel
theorem dX5_ifMade_57 : decode cX5_ifMade 57 = .ok (.iload_n 3, 1) := by decide +kernel
theorem dX5_ifMade_58 : decode cX5_ifMade 58 = .ok (.aload_n 0, 1) := by decide +kernel
theorem dX5_ifMade_59 : decode cX5_ifMade 59 = .ok (.getfield 16, 3) := by decide +kernel
theorem dX5_ifMade_62 : decode cX5_ifMade 62 = .ok (.iconst 0, 1) := by decide +kernel
theorem dX5_ifMade_63 : decode cX5_ifMade 63 = .ok (.invokevirtual 116, 3) := by decide +kernel
theorem dX5_ifMade_66 : decode cX5_ifMade 66 = .ok (.invokestatic 190, 3) := by decide +kernel
theorem dX5_ifMade_69 : decode cX5_ifMade 69 = .ok (.istore_n 3, 1) := by decide +kernel
theorem dX5_ifMade_70 : decode cX5_ifMade 70 = .ok (.iload 4, 2) := by decide +kernel
theorem dX5_ifMade_72 : decode cX5_ifMade 72 = .ok (.aload_n 0, 1) := by decide +kernel
theorem dX5_ifMade_73 : decode cX5_ifMade 73 = .ok (.getfield 16, 3) := by decide +kernel
theorem dX5_ifMade_76 : decode cX5_ifMade 76 = .ok (.iconst 0, 1) := by decide +kernel
theorem dX5_ifMade_77 : decode cX5_ifMade 77 = .ok (.invokevirtual 116, 3) := by decide +kernel
theorem dX5_ifMade_80 : decode cX5_ifMade 80 = .ok (.invokestatic 168, 3) := by decide +kernel
theorem dX5_ifMade_83 : decode cX5_ifMade 83 = .ok (.istore 4, 2) := by decide +kernel
theorem dX5_ifMade_85 : decode cX5_ifMade 85 = .ok (.iinc 5 1, 3) := by decide +kernel
theorem dX5_ifMade_88 : decode cX5_ifMade 88 = .ok (.goto (-44), 3) := by decide +kernel
theorem dX5_ifMade_91 : decode cX5_ifMade 91 = .ok (.iload_n 2, 1) := by decide +kernel
theorem dX5_ifMade_92 : decode cX5_ifMade 92 = .ok (.tableswitch 49 0 2 #[28, 30, 33], 28) := by decide +kernel
theorem dX5_ifMade_120 : decode cX5_ifMade 120 = .ok (.iload_n 3, 1) := by decide +kernel
theorem dX5_ifMade_121 : decode cX5_ifMade 121 = .ok (.ireturn, 1) := by decide +kernel
theorem dX5_ifMade_122 : decode cX5_ifMade 122 = .ok (.iload 4, 2) := by decide +kernel
theorem dX5_ifMade_124 : decode cX5_ifMade 124 = .ok (.ireturn, 1) := by decide +kernel
theorem dX5_ifMade_125 : decode cX5_ifMade 125 = .ok (.aload_n 0, 1) := by decide +kernel
theorem dX5_ifMade_126 : decode cX5_ifMade 126 = .ok (.getfield 16, 3) := by decide +kernel
theorem dX5_ifMade_129 : decode cX5_ifMade 129 = .ok (.getfield 162, 3) := by decide +kernel
theorem dX5_ifMade_132 : decode cX5_ifMade 132 = .ok (.aload_n 0, 1) := by decide +kernel
theorem dX5_ifMade_133 : decode cX5_ifMade 133 = .ok (.getfield 10, 3) := by decide +kernel
theorem dX5_ifMade_136 : decode cX5_ifMade 136 = .ok (.getfield 162, 3) := by decide +kernel
theorem dX5_ifMade_139 : decode cX5_ifMade 139 = .ok (.isub, 1) := by decide +kernel
theorem dX5_ifMade_140 : decode cX5_ifMade 140 = .ok (.ireturn, 1) := by decide +kernel
theorem dX5_ifMade_141 : decode cX5_ifMade 141 = .ok (.aload_n 0, 1) := by decide +kernel
theorem dX5_ifMade_142 : decode cX5_ifMade 142 = .ok (.getfield 16, 3) := by decide +kernel
theorem dX5_ifMade_145 : decode cX5_ifMade 145 = .ok (.iconst 0, 1) := by decide +kernel
theorem dX5_ifMade_146 : decode cX5_ifMade 146 = .ok (.invokevirtual 116, 3) := by decide +kernel
theorem dX5_ifMade_149 : decode cX5_ifMade 149 = .ok (.ireturn, 1) := by decide +kernel
set_option maxRecDepth 20000 in
theorem ggX5_untilClip_X3_takeOver : GoodIn wsX5_untilClip wsX3_takeOver := goodIn_r _ [8, 9, 10, 11, 12, 13, 14, 15, 16, 17, 18, 19, 20, 21, 22, 23, 24, 25, 26, 27, 28, 29, 30, 31, 32, 33, 34, 35, 36, 92, 93, 94, 95, 96, 97, 98, 99, 100, 101, 102, 103, 104, 105, 106, 107, 108, 109] (by decide +kernel) (by decide +kernel)
set_option maxRecDepth 20000 in
theorem gX5_untilClip_X3_takeOver : GoodIn wsX5_untilClip (wsV RX5 184 RX3 yX3_takeOver wsX3_takeOver) := goodIn_app (goodIn_of _ (by decide +kernel)) ggX5_untilClip_X3_takeOver
set_option maxRecDepth 20000 in
theorem ggX5_untilClip_X3_makeOne : GoodIn wsX5_untilClip wsX3_makeOne := goodIn_r _ [40, 9, 17, 41, 42, 43, 44, 15, 45, 46, 47, 48, 7, 49, 50, 51, 52, 53, 54, 55, 10, 56, 57, 58, 59, 60, 16, 19, 18, 61, 20, 62, 63, 64, 65, 66, 67, 68, 69, 70, 71, 72, 24, 73, 26, 27, 74, 31, 75, 76, 77, 78, 34, 36, 35, 32, 79, 80, 81, 82, 83, 84, 85, 86, 92, 93, 94, 95, 96, 97, 98, 99, 100, 101, 102, 103, 104, 105, 106, 107, 108, 109] (by decide +kernel) (by decide +kernel)
set_option maxRecDepth 20000 in
theorem gX5_untilClip_X3_makeOne : GoodIn wsX5_untilClip (wsV RX5 187 RX3 yX3_makeOne wsX3_makeOne) := goodIn_app (goodIn_of _ (by decide +kernel)) ggX5_untilClip_X3_makeOne
theorem dX5_untilClip_0 : decode cX5_untilClip 0 = .ok (.aload_n 0, 1) := by decide +kernel
theorem dX5_untilClip_1 : decode cX5_untilClip 1 = .ok (.getfield 16, 3) := by decide +kernel
theorem dX5_untilClip_4 : decode cX5_untilClip 4 = .ok (.aload_n 0, 1) := by decide +kernel
theorem dX5_untilClip_5 : decode cX5_untilClip 5 = .ok (.getfield 10, 3) := by decide +kernel
theorem dX5_untilClip_8 : decode cX5_untilClip 8 = .ok (.invokevirtual 184, 3) := by decide +kernel
theorem dX5_untilClip_11 : decode cX5_untilClip 11 = .ok (.iconst 1, 1) := by decide +kernel
theorem dX5_untilClip_12 : decode cX5_untilClip 12 = .ok (.istore_n 1, 1) := by decide +kernel
theorem dX5_untilClip_13 : decode cX5_untilClip 13 = .ok (.iload_n 1, 1) := by decide +kernel
theorem dX5_untilClip_14 : decode cX5_untilClip 14 = .ok (.sipush 2000, 3) := by decide +kernel
theorem dX5_untilClip_17 : decode cX5_untilClip 17 = .ok (.if_icmp .gt 35, 3) := by decide +kernel
theorem dX5_untilClip_20 : decode cX5_untilClip 20 = .ok (.aload_n 0, 1) := by decide +kernel
theorem dX5_untilClip_21 : decode cX5_untilClip 21 = .ok (.getfield 16, 3) := by decide +kernel
theorem dX5_untilClip_24 : decode cX5_untilClip 24 = .ok (.invokevirtual 187, 3) := by decide +kernel
theorem dX5_untilClip_27 : decode cX5_untilClip 27 = .ok (.aload_n 0, 1) := by decide +kernel
theorem dX5_untilClip_28 : decode cX5_untilClip 28 = .ok (.getfield 16, 3) := by decide +kernel
theorem dX5_untilClip_31 : decode cX5_untilClip 31 = .ok (.getfield 162, 3) := by decide +kernel
theorem dX5_untilClip_34 : decode cX5_untilClip 34 = .ok (.aload_n 0, 1) := by decide +kernel
theorem dX5_untilClip_35 : decode cX5_untilClip 35 = .ok (.getfield 10, 3) := by decide +kernel
theorem dX5_untilClip_38 : decode cX5_untilClip 38 = .ok (.getfield 162, 3) := by decide +kernel
theorem dX5_untilClip_41 : decode cX5_untilClip 41 = .ok (.if_icmp .le 5, 3) := by decide +kernel
theorem dX5_untilClip_44 : decode cX5_untilClip 44 = .ok (.iload_n 1, 1) := by decide +kernel
theorem dX5_untilClip_45 : decode cX5_untilClip 45 = .ok (.ireturn, 1) := by decide +kernel
theorem dX5_untilClip_46 : decode cX5_untilClip 46 = .ok (.iinc 1 1, 3) := by decide +kernel
theorem dX5_untilClip_49 : decode cX5_untilClip 49 = .ok (.goto (-36), 3) := by decide +kernel
theorem dX5_untilClip_52 : decode cX5_untilClip 52 = .ok (.bipush (-6), 2) := by decide +kernel
theorem dX5_untilClip_54 : decode cX5_untilClip 54 = .ok (.ireturn, 1) := by decide +kernel
set_option maxRecDepth 20000 in
theorem ggX5_bestStep_X5_isOutside : GoodIn wsX5_bestStep wsX5_isOutside := goodIn_r _ [10] (by decide +kernel) (by decide +kernel)
set_option maxRecDepth 20000 in
theorem gX5_bestStep_X5_isOutside : GoodIn wsX5_bestStep (va_wsS RX5 40 yX5_isOutside wsX5_isOutside) := goodIn_app (goodIn_of _ (by decide +kernel)) ggX5_bestStep_X5_isOutside
theorem dX5_bestStep_0 : decode cX5_bestStep 0 = .ok (.iload_n 1, 1) := by decide +kernel
theorem dX5_bestStep_1 : decode cX5_bestStep 1 = .ok (.iconst 2, 1) := by decide +kernel
theorem dX5_bestStep_2 : decode cX5_bestStep 2 = .ok (.ldc 193, 2) := by decide +kernel
theorem dX5_bestStep_4 : decode cX5_bestStep 4 = .ok (.invokestatic 40, 3) := by decide +kernel
theorem dX5_bestStep_7 : decode cX5_bestStep 7 = .ok (.ifCond .ne 12, 3) := by decide +kernel
theorem dX5_bestStep_10 : decode cX5_bestStep 10 = .ok (.iload_n 2, 1) := by decide +kernel
theorem dX5_bestStep_11 : decode cX5_bestStep 11 = .ok (.iconst 0, 1) := by decide +kernel
theorem dX5_bestStep_12 : decode cX5_bestStep 12 = .ok (.iconst 1, 1) := by decide +kernel
theorem dX5_bestStep_13 : decode cX5_bestStep 13 = .ok (.invokestatic 40, 3) := by decide +kernel
theorem dX5_bestStep_16 : decode cX5_bestStep 16 = .ok (.ifCond .eq 6, 3) := by decide +kernel
theorem dX5_bestStep_19 : decode cX5_bestStep 19 = .ok (.bipush (-2), 2) := by decide +kernel
theorem dX5_bestStep_21 : decode cX5_bestStep 21 = .ok (.ireturn, 1) := by decide +kernel
theorem dX5_bestStep_22 : decode cX5_bestStep 22 = .ok (.iconst 1, 1) := by decide +kernel
theorem dX5_bestStep_23 : decode cX5_bestStep 23 = .ok (.istore_n 3, 1) := by decide +kernel
theorem dX5_bestStep_24 : decode cX5_bestStep 24 = .ok (.iconst 2, 1) := by decide +kernel
theorem dX5_bestStep_25 : decode cX5_bestStep 25 = .ok (.istore 4, 2) := by decide +kernel
theorem dX5_bestStep_27 : decode cX5_bestStep 27 = .ok (.iload 4, 2) := by decide +kernel
theorem dX5_bestStep_29 : decode cX5_bestStep 29 = .ok (.ldc 194, 2) := by decide +kernel
theorem dX5_bestStep_31 : decode cX5_bestStep 31 = .ok (.if_icmp .gt 37, 3) := by decide +kernel
theorem dX5_bestStep_34 : decode cX5_bestStep 34 = .ok (.ldc 193, 2) := by decide +kernel
theorem dX5_bestStep_36 : decode cX5_bestStep 36 = .ok (.iload 4, 2) := by decide +kernel
theorem dX5_bestStep_38 : decode cX5_bestStep 38 = .ok (.idiv, 1) := by decide +kernel
theorem dX5_bestStep_39 : decode cX5_bestStep 39 = .ok (.iload_n 1, 1) := by decide +kernel
theorem dX5_bestStep_40 : decode cX5_bestStep 40 = .ok (.isub, 1) := by decide +kernel
theorem dX5_bestStep_41 : decode cX5_bestStep 41 = .ok (.invokestatic 157, 3) := by decide +kernel
theorem dX5_bestStep_44 : decode cX5_bestStep 44 = .ok (.ldc 193, 2) := by decide +kernel
theorem dX5_bestStep_46 : decode cX5_bestStep 46 = .ok (.iload_n 3, 1) := by decide +kernel
theorem dX5_bestStep_47 : decode cX5_bestStep 47 = .ok (.idiv, 1) := by decide +kernel
theorem dX5_bestStep_48 : decode cX5_bestStep 48 = .ok (.iload_n 1, 1) := by decide +kernel
theorem dX5_bestStep_49 : decode cX5_bestStep 49 = .ok (.isub, 1) := by decide +kernel
theorem dX5_bestStep_50 : decode cX5_bestStep 50 = .ok (.invokestatic 157, 3) := by decide +kernel
theorem dX5_bestStep_53 : decode cX5_bestStep 53 = .ok (.if_icmp .ge 6, 3) := by decide +kernel
theorem dX5_bestStep_56 : decode cX5_bestStep 56 = .ok (.iload 4, 2) := by decide +kernel
theorem dX5_bestStep_58 : decode cX5_bestStep 58 = .ok (.istore_n 3, 1) := by decide +kernel
theorem dX5_bestStep_59 : decode cX5_bestStep 59 = .ok (.iload 4, 2) := by decide +kernel
theorem dX5_bestStep_61 : decode cX5_bestStep 61 = .ok (.iconst 2, 1) := by decide +kernel
theorem dX5_bestStep_62 : decode cX5_bestStep 62 = .ok (.imul, 1) := by decide +kernel
theorem dX5_bestStep_63 : decode cX5_bestStep 63 = .ok (.istore 4, 2) := by decide +kernel
theorem dX5_bestStep_65 : decode cX5_bestStep 65 = .ok (.goto (-38), 3) := by decide +kernel
theorem dX5_bestStep_68 : decode cX5_bestStep 68 = .ok (.iload_n 2, 1) := by decide +kernel
theorem dX5_bestStep_69 : decode cX5_bestStep 69 = .ok (.ifCond .ne 7, 3) := by decide +kernel
theorem dX5_bestStep_72 : decode cX5_bestStep 72 = .ok (.iload_n 3, 1) := by decide +kernel
theorem dX5_bestStep_73 : decode cX5_bestStep 73 = .ok (.goto 7, 3) := by decide +kernel
theorem dX5_bestStep_76 : decode cX5_bestStep 76 = .ok (.ldc 193, 2) := by decide +kernel
theorem dX5_bestStep_78 : decode cX5_bestStep 78 = .ok (.iload_n 3, 1) := by decide +kernel
theorem dX5_bestStep_79 : decode cX5_bestStep 79 = .ok (.idiv, 1) := by decide +kernel
theorem dX5_bestStep_80 : decode cX5_bestStep 80 = .ok (.ireturn, 1) := by decide +kernel
set_option maxRecDepth 20000 in
theorem ggX5_untilRound_X5_isNoWheel : GoodIn wsX5_untilRound wsX5_isNoWheel := goodIn_r _ [7, 8, 9, 6, 10] (by decide +kernel) (by decide +kernel)
set_option maxRecDepth 20000 in
theorem gX5_untilRound_X5_isNoWheel : GoodIn wsX5_untilRound (va_wsS RX5 63 yX5_isNoWheel wsX5_isNoWheel) := goodIn_app (goodIn_of _ (by decide +kernel)) ggX5_untilRound_X5_isNoWheel
set_option maxRecDepth 20000 in
theorem ggX5_untilRound_X3_takeOver : GoodIn wsX5_untilRound wsX3_takeOver := goodIn_r _ [15, 16, 17, 18, 19, 20, 21, 22, 23, 24, 25, 26, 27, 28, 29, 30, 31, 32, 33, 34, 35, 36, 37, 38, 39, 40, 41, 42, 43, 72, 73, 74, 75, 76, 77, 78, 79, 80, 81, 82, 83, 84, 85, 86, 87, 88, 89] (by decide +kernel) (by decide +kernel)
set_option maxRecDepth 20000 in
theorem gX5_untilRound_X3_takeOver : GoodIn wsX5_untilRound (wsV RX5 184 RX3 yX3_takeOver wsX3_takeOver) := goodIn_app (goodIn_of _ (by decide +kernel)) ggX5_untilRound_X3_takeOver
set_option maxRecDepth 20000 in
theorem ggX5_untilRound_X4_goRound : GoodIn wsX5_untilRound wsX4_goRound := goodIn_r _ [47, 38, 48, 33, 34, 49, 50, 51, 52, 31, 53, 54, 55, 56, 57, 58, 41, 43, 42, 39, 59, 60, 61, 62, 63, 64, 65, 66, 80, 81, 82, 83, 84, 85, 86, 87, 88, 89] (by decide +kernel) (by decide +kernel)
set_option maxRecDepth 20000 in
theorem gX5_untilRound_X4_goRound : GoodIn wsX5_untilRound (wsV RX5 195 RX4 yX4_goRound wsX4_goRound) := goodIn_app (goodIn_of _ (by decide +kernel)) ggX5_untilRound_X4_goRound
theorem dX5_untilRound_0 : decode cX5_untilRound 0 = .ok (.iload_n 1, 1) := by decide +kernel
theorem dX5_untilRound_1 : decode cX5_untilRound 1 = .ok (.invokestatic 63, 3) := by decide +kernel
theorem dX5_untilRound_4 : decode cX5_untilRound 4 = .ok (.ifCond .eq 5, 3) := by decide +kernel
theorem dX5_untilRound_7 : decode cX5_untilRound 7 = .ok (.iconst (-1), 1) := by decide +kernel
theorem dX5_untilRound_8 : decode cX5_untilRound 8 = .ok (.ireturn, 1) := by decide +kernel
theorem dX5_untilRound_9 : decode cX5_untilRound 9 = .ok (.aload_n 0, 1) := by decide +kernel
theorem dX5_untilRound_10 : decode cX5_untilRound 10 = .ok (.getfield 16, 3) := by decide +kernel
theorem dX5_untilRound_13 : decode cX5_untilRound 13 = .ok (.aload_n 0, 1) := by decide +kernel
theorem dX5_untilRound_14 : decode cX5_untilRound 14 = .ok (.getfield 10, 3) := by decide +kernel
theorem dX5_untilRound_17 : decode cX5_untilRound 17 = .ok (.invokevirtual 184, 3) := by decide +kernel
theorem dX5_untilRound_20 : decode cX5_untilRound 20 = .ok (.aload_n 0, 1) := by decide +kernel
theorem dX5_untilRound_21 : decode cX5_untilRound 21 = .ok (.getfield 16, 3) := by decide +kernel
theorem dX5_untilRound_24 : decode cX5_untilRound 24 = .ok (.getfield 67, 3) := by decide +kernel
theorem dX5_untilRound_27 : decode cX5_untilRound 27 = .ok (.iload_n 1, 1) := by decide +kernel
theorem dX5_untilRound_28 : decode cX5_untilRound 28 = .ok (.aaload, 1) := by decide +kernel
theorem dX5_untilRound_29 : decode cX5_untilRound 29 = .ok (.invokevirtual 195, 3) := by decide +kernel
theorem dX5_untilRound_32 : decode cX5_untilRound 32 = .ok (.ireturn, 1) := by decide +kernel
set_option maxRecDepth 20000 in
theorem ggX5_put_X5_sizeOfText : GoodIn wsX5_put wsX5_sizeOfText := goodIn_r _ [7, 3, 8, 9, 6, 10] (by decide +kernel) (by decide +kernel)
set_option maxRecDepth 20000 in
theorem gX5_put_X5_sizeOfText : GoodIn wsX5_put (va_wsS RX5 198 yX5_sizeOfText wsX5_sizeOfText) := goodIn_app (goodIn_of _ (by decide +kernel)) ggX5_put_X5_sizeOfText
set_option maxRecDepth 20000 in
theorem ggX5_put_X1_append : GoodIn wsX5_put wsX1_append := goodIn_r _ [15, 16, 17, 23, 24, 25, 26, 27, 28, 29] (by decide +kernel) (by decide +kernel)
set_option maxRecDepth 20000 in
theorem gX5_put_X1_append : GoodIn wsX5_put (wsV RX5 204 RX1 yX1_append wsX1_append) := goodIn_app (goodIn_of _ (by decide +kernel)) ggX5_put_X1_append
theorem dX5_put_0 : decode cX5_put 0 = .ok (.lload_n 1, 1) := by decide +kernel
theorem dX5_put_1 : decode cX5_put 1 = .ok (.invokestatic 198, 3) := by decide +kernel
theorem dX5_put_4 : decode cX5_put 4 = .ok (.istore_n 3, 1) := by decide +kernel
theorem dX5_put_5 : decode cX5_put 5 = .ok (.iload_n 3, 1) := by decide +kernel
theorem dX5_put_6 : decode cX5_put 6 = .ok (.ifCond .ne 6, 3) := by decide +kernel
theorem dX5_put_9 : decode cX5_put 9 = .ok (.bipush (-2), 2) := by decide +kernel
theorem dX5_put_11 : decode cX5_put 11 = .ok (.ireturn, 1) := by decide +kernel
theorem dX5_put_12 : decode cX5_put 12 = .ok (.aload_n 0, 1) := by decide +kernel
theorem dX5_put_13 : decode cX5_put 13 = .ok (.getfield 36, 3) := by decide +kernel
theorem dX5_put_16 : decode cX5_put 16 = .ok (.getfield 135, 3) := by decide +kernel
theorem dX5_put_19 : decode cX5_put 19 = .ok (.iload_n 3, 1) := by decide +kernel
theorem dX5_put_20 : decode cX5_put 20 = .ok (.iadd, 1) := by decide +kernel
theorem dX5_put_21 : decode cX5_put 21 = .ok (.bipush 60, 2) := by decide +kernel
theorem dX5_put_23 : decode cX5_put 23 = .ok (.if_icmp .le 6, 3) := by decide +kernel
theorem dX5_put_26 : decode cX5_put 26 = .ok (.bipush (-4), 2) := by decide +kernel
theorem dX5_put_28 : decode cX5_put 28 = .ok (.ireturn, 1) := by decide +kernel
theorem dX5_put_29 : decode cX5_put 29 = .ok (.iload_n 3, 1) := by decide +kernel
theorem dX5_put_30 : decode cX5_put 30 = .ok (.iconst 1, 1) := by decide +kernel
theorem dX5_put_31 : decode cX5_put 31 = .ok (.isub, 1) := by decide +kernel
theorem dX5_put_32 : decode cX5_put 32 = .ok (.istore 4, 2) := by decide +kernel
theorem dX5_put_34 : decode cX5_put 34 = .ok (.iload 4, 2) := by decide +kernel
theorem dX5_put_36 : decode cX5_put 36 = .ok (.ifCond .lt 29, 3) := by decide +kernel
theorem dX5_put_39 : decode cX5_put 39 = .ok (.aload_n 0, 1) := by decide +kernel
theorem dX5_put_40 : decode cX5_put 40 = .ok (.getfield 36, 3) := by decide +kernel
theorem dX5_put_43 : decode cX5_put 43 = .ok (.lload_n 1, 1) := by decide +kernel
theorem dX5_put_44 : decode cX5_put 44 = .ok (.bipush 8, 2) := by decide +kernel
theorem dX5_put_46 : decode cX5_put 46 = .ok (.iload 4, 2) := by decide +kernel
theorem dX5_put_48 : decode cX5_put 48 = .ok (.imul, 1) := by decide +kernel
theorem dX5_put_49 : decode cX5_put 49 = .ok (.lushr, 1) := by decide +kernel
theorem dX5_put_50 : decode cX5_put 50 = .ok (.ldc2_w 202, 3) := by decide +kernel
theorem dX5_put_53 : decode cX5_put 53 = .ok (.land, 1) := by decide +kernel
theorem dX5_put_54 : decode cX5_put 54 = .ok (.l2i, 1) := by decide +kernel
theorem dX5_put_55 : decode cX5_put 55 = .ok (.i2c, 1) := by decide +kernel
theorem dX5_put_56 : decode cX5_put 56 = .ok (.invokevirtual 204, 3) := by decide +kernel
theorem dX5_put_59 : decode cX5_put 59 = .ok (.iinc 4 (-1), 3) := by decide +kernel
theorem dX5_put_62 : decode cX5_put 62 = .ok (.goto (-28), 3) := by decide +kernel
theorem dX5_put_65 : decode cX5_put 65 = .ok (.aload_n 0, 1) := by decide +kernel
theorem dX5_put_66 : decode cX5_put 66 = .ok (.getfield 36, 3) := by decide +kernel
theorem dX5_put_69 : decode cX5_put 69 = .ok (.getfield 135, 3) := by decide +kernel
theorem dX5_put_72 : decode cX5_put 72 = .ok (.ireturn, 1) := by decide +kernel
theorem dX5_wipe_0 : decode cX5_wipe 0 = .ok (.aload_n 0, 1) := by decide +kernel
theorem dX5_wipe_1 : decode cX5_wipe 1 = .ok (.getfield 36, 3) := by decide +kernel
theorem dX5_wipe_4 : decode cX5_wipe 4 = .ok (.getfield 135, 3) := by decide +kernel
theorem dX5_wipe_7 : decode cX5_wipe 7 = .ok (.istore_n 1, 1) := by decide +kernel
theorem dX5_wipe_8 : decode cX5_wipe 8 = .ok (.aload_n 0, 1) := by decide +kernel
theorem dX5_wipe_9 : decode cX5_wipe 9 = .ok (.getfield 36, 3) := by decide +kernel
theorem dX5_wipe_12 : decode cX5_wipe 12 = .ok (.iconst 0, 1) := by decide +kernel
theorem dX5_wipe_13 : decode cX5_wipe 13 = .ok (.putfield 135, 3) := by decide +kernel
theorem dX5_wipe_16 : decode cX5_wipe 16 = .ok (.iload_n 1, 1) := by decide +kernel
theorem dX5_wipe_17 : decode cX5_wipe 17 = .ok (.ireturn, 1) := by decide +kernel
set_option maxRecDepth 20000 in
theorem ggX5_fault_X1_findFault : GoodIn wsX5_fault wsX1_findFault := goodIn_r _ [6, 7, 8, 9, 10, 11, 5, 12, 13, 14, 15, 16, 17, 18, 19, 20, 21, 22, 23, 24, 25, 26, 27, 28, 29, 30, 31, 32, 33, 34, 35, 36, 37, 38, 39, 40, 41, 42, 43, 44, 45, 51, 52, 53, 54, 55, 56, 57] (by decide +kernel) (by decide +kernel)
set_option maxRecDepth 20000 in
theorem gX5_fault_X1_findFault : GoodIn wsX5_fault (wsV RX5 119 RX1 yX1_findFault wsX1_findFault) := goodIn_app (goodIn_of _ (by decide +kernel)) ggX5_fault_X1_findFault
theorem dX5_fault_0 : decode cX5_fault 0 = .ok (.aload_n 0, 1) := by decide +kernel
theorem dX5_fault_1 : decode cX5_fault 1 = .ok (.getfield 36, 3) := by decide +kernel
theorem dX5_fault_4 : decode cX5_fault 4 = .ok (.invokevirtual 119, 3) := by decide +kernel
theorem dX5_fault_7 : decode cX5_fault 7 = .ok (.ireturn, 1) := by decide +kernel
set_option maxRecDepth 20000 in
theorem ggX5_undo_X0_bringBack : GoodIn wsX5_undo wsX0_bringBack := goodIn_r _ [8, 9, 10, 11, 12, 13, 14, 15, 16, 17, 18, 19, 20, 21, 22, 23, 24, 25, 26, 27, 28, 29, 30, 31, 32, 33, 34, 35, 36, 37, 38, 39, 40, 41, 42, 43, 44, 45, 46, 47, 48, 49, 50, 51, 52, 58, 59, 60, 61, 62, 63, 64, 65, 66, 67, 68, 69, 70, 71, 72, 73, 74, 75, 76, 77, 78] (by decide +kernel) (by decide +kernel)
set_option maxRecDepth 20000 in
theorem gX5_undo_X0_bringBack : GoodIn wsX5_undo (wsV RX5 208 RX0 yX0_bringBack wsX0_bringBack) := goodIn_app (goodIn_of _ (by decide +kernel)) ggX5_undo_X0_bringBack
theorem dX5_undo_0 : decode cX5_undo 0 = .ok (.aload_n 0, 1) := by decide +kernel
theorem dX5_undo_1 : decode cX5_undo 1 = .ok (.getfield 22, 3) := by decide +kernel
theorem dX5_undo_4 : decode cX5_undo 4 = .ok (.getfield 181, 3) := by decide +kernel
theorem dX5_undo_7 : decode cX5_undo 7 = .ok (.ifCond .ne 6, 3) := by decide +kernel
theorem dX5_undo_10 : decode cX5_undo 10 = .ok (.bipush (-5), 2) := by decide +kernel
theorem dX5_undo_12 : decode cX5_undo 12 = .ok (.ireturn, 1) := by decide +kernel
theorem dX5_undo_13 : decode cX5_undo 13 = .ok (.aload_n 0, 1) := by decide +kernel
theorem dX5_undo_14 : decode cX5_undo 14 = .ok (.getfield 22, 3) := by decide +kernel
theorem dX5_undo_17 : decode cX5_undo 17 = .ok (.aload_n 0, 1) := by decide +kernel
theorem dX5_undo_18 : decode cX5_undo 18 = .ok (.getfield 10, 3) := by decide +kernel
theorem dX5_undo_21 : decode cX5_undo 21 = .ok (.invokevirtual 208, 3) := by decide +kernel
theorem dX5_undo_24 : decode cX5_undo 24 = .ok (.aload_n 0, 1) := by decide +kernel
theorem dX5_undo_25 : decode cX5_undo 25 = .ok (.getfield 22, 3) := by decide +kernel
theorem dX5_undo_28 : decode cX5_undo 28 = .ok (.getfield 181, 3) := by decide +kernel
theorem dX5_undo_31 : decode cX5_undo 31 = .ok (.ireturn, 1) := by decide +kernel
set_option maxRecDepth 20000 in
theorem ggX5_save_X5_isOutside : GoodIn wsX5_save wsX5_isOutside := goodIn_r _ [9] (by decide +kernel) (by decide +kernel)
set_option maxRecDepth 20000 in
theorem gX5_save_X5_isOutside : GoodIn wsX5_save (va_wsS RX5 40 yX5_isOutside wsX5_isOutside) := goodIn_app (goodIn_of _ (by decide +kernel)) ggX5_save_X5_isOutside
set_option maxRecDepth 20000 in
theorem ggX5_save_X3_takeOver : GoodIn wsX5_save wsX3_takeOver := goodIn_r _ [14, 15, 16, 17, 18, 19, 20, 21, 22, 23, 24, 25, 26, 27, 28, 29, 30, 31, 32, 33, 34, 35, 36, 37, 38, 39, 40, 41, 42, 50, 51, 52, 53, 54, 55, 56, 57, 58, 59, 60, 61, 62, 63, 64, 65, 66, 67] (by decide +kernel) (by decide +kernel)
set_option maxRecDepth 20000 in
theorem gX5_save_X3_takeOver : GoodIn wsX5_save (wsV RX5 184 RX3 yX3_takeOver wsX3_takeOver) := goodIn_app (goodIn_of _ (by decide +kernel)) ggX5_save_X3_takeOver
theorem dX5_save_0 : decode cX5_save 0 = .ok (.iload_n 1, 1) := by decide +kernel
theorem dX5_save_1 : decode cX5_save 1 = .ok (.iconst 0, 1) := by decide +kernel
theorem dX5_save_2 : decode cX5_save 2 = .ok (.iconst 1, 1) := by decide +kernel
theorem dX5_save_3 : decode cX5_save 3 = .ok (.invokestatic 40, 3) := by decide +kernel
theorem dX5_save_6 : decode cX5_save 6 = .ok (.ifCond .eq 6, 3) := by decide +kernel
theorem dX5_save_9 : decode cX5_save 9 = .ok (.bipush (-2), 2) := by decide +kernel
theorem dX5_save_11 : decode cX5_save 11 = .ok (.ireturn, 1) := by decide +kernel
theorem dX5_save_12 : decode cX5_save 12 = .ok (.aload_n 0, 1) := by decide +kernel
theorem dX5_save_13 : decode cX5_save 13 = .ok (.getfield 29, 3) := by decide +kernel
theorem dX5_save_16 : decode cX5_save 16 = .ok (.getfield 211, 3) := by decide +kernel
theorem dX5_save_19 : decode cX5_save 19 = .ok (.iload_n 1, 1) := by decide +kernel
theorem dX5_save_20 : decode cX5_save 20 = .ok (.aaload, 1) := by decide +kernel
theorem dX5_save_21 : decode cX5_save 21 = .ok (.aload_n 0, 1) := by decide +kernel
theorem dX5_save_22 : decode cX5_save 22 = .ok (.getfield 10, 3) := by decide +kernel
theorem dX5_save_25 : decode cX5_save 25 = .ok (.invokevirtual 184, 3) := by decide +kernel
theorem dX5_save_28 : decode cX5_save 28 = .ok (.aload_n 0, 1) := by decide +kernel
theorem dX5_save_29 : decode cX5_save 29 = .ok (.getfield 29, 3) := by decide +kernel
theorem dX5_save_32 : decode cX5_save 32 = .ok (.getfield 215, 3) := by decide +kernel
theorem dX5_save_35 : decode cX5_save 35 = .ok (.iload_n 1, 1) := by decide +kernel
theorem dX5_save_36 : decode cX5_save 36 = .ok (.iconst 1, 1) := by decide +kernel
theorem dX5_save_37 : decode cX5_save 37 = .ok (.bastore, 1) := by decide +kernel
theorem dX5_save_38 : decode cX5_save 38 = .ok (.aload_n 0, 1) := by decide +kernel
theorem dX5_save_39 : decode cX5_save 39 = .ok (.getfield 10, 3) := by decide +kernel
theorem dX5_save_42 : decode cX5_save 42 = .ok (.getfield 154, 3) := by decide +kernel
theorem dX5_save_45 : decode cX5_save 45 = .ok (.ireturn, 1) := by decide +kernel
set_option maxRecDepth 20000 in
theorem ggX5_restore_X5_isOutside : GoodIn wsX5_restore wsX5_isOutside := goodIn_r _ [10] (by decide +kernel) (by decide +kernel)
set_option maxRecDepth 20000 in
theorem gX5_restore_X5_isOutside : GoodIn wsX5_restore (va_wsS RX5 40 yX5_isOutside wsX5_isOutside) := goodIn_app (goodIn_of _ (by decide +kernel)) ggX5_restore_X5_isOutside
set_option maxRecDepth 20000 in
theorem ggX5_restore_X0_keep : GoodIn wsX5_restore wsX0_keep := goodIn_r _ [15, 16, 17, 18, 19, 20, 21, 22, 23, 24, 25, 26, 27, 28, 29, 30, 31, 32, 33, 34, 35, 36, 37, 38, 39, 40, 41, 42, 43, 44, 45, 46, 47, 48, 49, 50, 51, 52, 53, 54, 55, 56, 57, 58, 59, 76, 77, 78, 68, 69, 70, 71, 72, 73, 74, 75, 79, 80, 81, 82, 83, 84, 85, 86, 87, 88] (by decide +kernel) (by decide +kernel)
set_option maxRecDepth 20000 in
theorem gX5_restore_X0_keep : GoodIn wsX5_restore (wsV RX5 44 RX0 yX0_keep wsX0_keep) := goodIn_app (goodIn_of _ (by decide +kernel)) ggX5_restore_X0_keep
set_option maxRecDepth 20000 in
theorem ggX5_restore_X3_takeOver : GoodIn wsX5_restore wsX3_takeOver := goodIn_r _ [31, 32, 33, 34, 35, 36, 37, 38, 39, 40, 41, 42, 43, 44, 45, 46, 47, 48, 49, 50, 51, 52, 53, 54, 55, 56, 57, 58, 59, 68, 69, 70, 71, 72, 73, 74, 75, 79, 80, 81, 82, 83, 84, 85, 86, 87, 88] (by decide +kernel) (by decide +kernel)
set_option maxRecDepth 20000 in
theorem gX5_restore_X3_takeOver : GoodIn wsX5_restore (wsV RX5 184 RX3 yX3_takeOver wsX3_takeOver) := goodIn_app (goodIn_of _ (by decide +kernel)) ggX5_restore_X3_takeOver
theorem dX5_restore_0 : decode cX5_restore 0 = .ok (.iload_n 1, 1) := by decide +kernel
theorem dX5_restore_1 : decode cX5_restore 1 = .ok (.iconst 0, 1) := by decide +kernel
theorem dX5_restore_2 : decode cX5_restore 2 = .ok (.iconst 1, 1) := by decide +kernel
theorem dX5_restore_3 : decode cX5_restore 3 = .ok (.invokestatic 40, 3) := by decide +kernel
theorem dX5_restore_6 : decode cX5_restore 6 = .ok (.ifCond .eq 6, 3) := by decide +kernel
theorem dX5_restore_9 : decode cX5_restore 9 = .ok (.bipush (-2), 2) := by decide +kernel
theorem dX5_restore_11 : decode cX5_restore 11 = .ok (.ireturn, 1) := by decide +kernel
theorem dX5_restore_12 : decode cX5_restore 12 = .ok (.aload_n 0, 1) := by decide +kernel
theorem dX5_restore_13 : decode cX5_restore 13 = .ok (.getfield 29, 3) := by decide +kernel
theorem dX5_restore_16 : decode cX5_restore 16 = .ok (.getfield 215, 3) := by decide +kernel
theorem dX5_restore_19 : decode cX5_restore 19 = .ok (.iload_n 1, 1) := by decide +kernel
theorem dX5_restore_20 : decode cX5_restore 20 = .ok (.baload, 1) := by decide +kernel
theorem dX5_restore_21 : decode cX5_restore 21 = .ok (.ifCond .ne 6, 3) := by decide +kernel
theorem dX5_restore_24 : decode cX5_restore 24 = .ok (.bipush (-5), 2) := by decide +kernel
theorem dX5_restore_26 : decode cX5_restore 26 = .ok (.ireturn, 1) := by decide +kernel
theorem dX5_restore_27 : decode cX5_restore 27 = .ok (.aload_n 0, 1) := by decide +kernel
theorem dX5_restore_28 : decode cX5_restore 28 = .ok (.getfield 22, 3) := by decide +kernel
theorem dX5_restore_31 : decode cX5_restore 31 = .ok (.aload_n 0, 1) := by decide +kernel
theorem dX5_restore_32 : decode cX5_restore 32 = .ok (.getfield 10, 3) := by decide +kernel
theorem dX5_restore_35 : decode cX5_restore 35 = .ok (.invokevirtual 44, 3) := by decide +kernel
theorem dX5_restore_38 : decode cX5_restore 38 = .ok (.aload_n 0, 1) := by decide +kernel
theorem dX5_restore_39 : decode cX5_restore 39 = .ok (.getfield 10, 3) := by decide +kernel
theorem dX5_restore_42 : decode cX5_restore 42 = .ok (.aload_n 0, 1) := by decide +kernel
theorem dX5_restore_43 : decode cX5_restore 43 = .ok (.getfield 29, 3) := by decide +kernel
theorem dX5_restore_46 : decode cX5_restore 46 = .ok (.getfield 211, 3) := by decide +kernel
theorem dX5_restore_49 : decode cX5_restore 49 = .ok (.iload_n 1, 1) := by decide +kernel
theorem dX5_restore_50 : decode cX5_restore 50 = .ok (.aaload, 1) := by decide +kernel
theorem dX5_restore_51 : decode cX5_restore 51 = .ok (.invokevirtual 184, 3) := by decide +kernel
theorem dX5_restore_54 : decode cX5_restore 54 = .ok (.aload_n 0, 1) := by decide +kernel
theorem dX5_restore_55 : decode cX5_restore 55 = .ok (.getfield 10, 3) := by decide +kernel
theorem dX5_restore_58 : decode cX5_restore 58 = .ok (.getfield 154, 3) := by decide +kernel
theorem dX5_restore_61 : decode cX5_restore 61 = .ok (.ireturn, 1) := by decide +kernel
theorem dX5_isOutside_0 : decode cX5_isOutside 0 = .ok (.iload_n 0, 1) := by decide +kernel
theorem dX5_isOutside_1 : decode cX5_isOutside 1 = .ok (.iload_n 1, 1) := by decide +kernel
theorem dX5_isOutside_2 : decode cX5_isOutside 2 = .ok (.if_icmp .lt 8, 3) := by decide +kernel
theorem dX5_isOutside_5 : decode cX5_isOutside 5 = .ok (.iload_n 0, 1) := by decide +kernel
theorem dX5_isOutside_6 : decode cX5_isOutside 6 = .ok (.iload_n 2, 1) := by decide +kernel
theorem dX5_isOutside_7 : decode cX5_isOutside 7 = .ok (.if_icmp .le 7, 3) := by decide +kernel
theorem dX5_isOutside_10 : decode cX5_isOutside 10 = .ok (.iconst 1, 1) := by decide +kernel
theorem dX5_isOutside_11 : decode cX5_isOutside 11 = .ok (.goto 4, 3) := by decide +kernel
theorem dX5_isOutside_14 : decode cX5_isOutside 14 = .ok (.iconst 0, 1) := by decide +kernel
theorem dX5_isOutside_15 : decode cX5_isOutside 15 = .ok (.ireturn, 1) := by decide +kernel
set_option maxRecDepth 20000 in
theorem ggX5_isNoWheel_X5_isOutside : GoodIn wsX5_isNoWheel wsX5_isOutside := goodIn_r _ [4] (by decide +kernel) (by decide +kernel)
set_option maxRecDepth 20000 in
theorem gX5_isNoWheel_X5_isOutside : GoodIn wsX5_isNoWheel (va_wsS RX5 40 yX5_isOutside wsX5_isOutside) := goodIn_app (goodIn_of _ (by decide +kernel)) ggX5_isNoWheel_X5_isOutside
theorem dX5_isNoWheel_0 : decode cX5_isNoWheel 0 = .ok (.iload_n 0, 1) := by decide +kernel
theorem dX5_isNoWheel_1 : decode cX5_isNoWheel 1 = .ok (.iconst 0, 1) := by decide +kernel
theorem dX5_isNoWheel_2 : decode cX5_isNoWheel 2 = .ok (.iconst 3, 1) := by decide +kernel
theorem dX5_isNoWheel_3 : decode cX5_isNoWheel 3 = .ok (.invokestatic 40, 3) := by decide +kernel
theorem dX5_isNoWheel_6 : decode cX5_isNoWheel 6 = .ok (.ireturn, 1) := by decide +kernel
set_option maxRecDepth 20000 in
theorem ggX5_isNoTable_X5_isOutside : GoodIn wsX5_isNoTable wsX5_isOutside := goodIn_r _ [4] (by decide +kernel) (by decide +kernel)
set_option maxRecDepth 20000 in
theorem gX5_isNoTable_X5_isOutside : GoodIn wsX5_isNoTable (va_wsS RX5 40 yX5_isOutside wsX5_isOutside) := goodIn_app (goodIn_of _ (by decide +kernel)) ggX5_isNoTable_X5_isOutside
theorem dX5_isNoTable_0 : decode cX5_isNoTable 0 = .ok (.iload_n 0, 1) := by decide +kernel
theorem dX5_isNoTable_1 : decode cX5_isNoTable 1 = .ok (.iconst 0, 1) := by decide +kernel
theorem dX5_isNoTable_2 : decode cX5_isNoTable 2 = .ok (.iconst 3, 1) := by decide +kernel
theorem dX5_isNoTable_3 : decode cX5_isNoTable 3 = .ok (.invokestatic 40, 3) := by decide +kernel
theorem dX5_isNoTable_6 : decode cX5_isNoTable 6 = .ok (.ireturn, 1) := by decide +kernel
set_option maxRecDepth 20000 in
theorem ggX5_isNoPlace_X5_isOutside : GoodIn wsX5_isNoPlace wsX5_isOutside := goodIn_r _ [4] (by decide +kernel) (by decide +kernel)
set_option maxRecDepth 20000 in
theorem gX5_isNoPlace_X5_isOutside : GoodIn wsX5_isNoPlace (va_wsS RX5 40 yX5_isOutside wsX5_isOutside) := goodIn_app (goodIn_of _ (by decide +kernel)) ggX5_isNoPlace_X5_isOutside
theorem dX5_isNoPlace_0 : decode cX5_isNoPlace 0 = .ok (.iload_n 0, 1) := by decide +kernel
theorem dX5_isNoPlace_1 : decode cX5_isNoPlace 1 = .ok (.iconst 0, 1) := by decide +kernel
theorem dX5_isNoPlace_2 : decode cX5_isNoPlace 2 = .ok (.bipush 15, 2) := by decide +kernel
theorem dX5_isNoPlace_4 : decode cX5_isNoPlace 4 = .ok (.invokestatic 40, 3) := by decide +kernel
theorem dX5_isNoPlace_7 : decode cX5_isNoPlace 7 = .ok (.ireturn, 1) := by decide +kernel
set_option maxRecDepth 20000 in
theorem ggX5_sizeOfText_X5_isOutside : GoodIn wsX5_sizeOfText wsX5_isOutside := goodIn_r _ [5] (by decide +kernel) (by decide +kernel)
set_option maxRecDepth 20000 in
theorem gX5_sizeOfText_X5_isOutside : GoodIn wsX5_sizeOfText (va_wsS RX5 40 yX5_isOutside wsX5_isOutside) := goodIn_app (goodIn_of _ (by decide +kernel)) ggX5_sizeOfText_X5_isOutside
theorem dX5_sizeOfText_0 : decode cX5_sizeOfText 0 = .ok (.lload_n 0, 1) := by decide +kernel
theorem dX5_sizeOfText_1 : decode cX5_sizeOfText 1 = .ok (.lstore_n 2, 1) := by decide +kernel
theorem dX5_sizeOfText_2 : decode cX5_sizeOfText 2 = .ok (.iconst 0, 1) := by decide +kernel
theorem dX5_sizeOfText_3 : decode cX5_sizeOfText 3 = .ok (.istore 4, 2) := by decide +kernel
theorem dX5_sizeOfText_5 : decode cX5_sizeOfText 5 = .ok (.iload 4, 2) := by decide +kernel
theorem dX5_sizeOfText_7 : decode cX5_sizeOfText 7 = .ok (.bipush 8, 2) := by decide +kernel
theorem dX5_sizeOfText_9 : decode cX5_sizeOfText 9 = .ok (.if_icmp .ge 42, 3) := by decide +kernel
theorem dX5_sizeOfText_12 : decode cX5_sizeOfText 12 = .ok (.lload_n 2, 1) := by decide +kernel
theorem dX5_sizeOfText_13 : decode cX5_sizeOfText 13 = .ok (.ldc2_w 202, 3) := by decide +kernel
theorem dX5_sizeOfText_16 : decode cX5_sizeOfText 16 = .ok (.land, 1) := by decide +kernel
theorem dX5_sizeOfText_17 : decode cX5_sizeOfText 17 = .ok (.lconst 0, 1) := by decide +kernel
theorem dX5_sizeOfText_18 : decode cX5_sizeOfText 18 = .ok (.lcmp, 1) := by decide +kernel
theorem dX5_sizeOfText_19 : decode cX5_sizeOfText 19 = .ok (.ifCond .eq 32, 3) := by decide +kernel
theorem dX5_sizeOfText_22 : decode cX5_sizeOfText 22 = .ok (.lload_n 2, 1) := by decide +kernel
theorem dX5_sizeOfText_23 : decode cX5_sizeOfText 23 = .ok (.ldc2_w 202, 3) := by decide +kernel
theorem dX5_sizeOfText_26 : decode cX5_sizeOfText 26 = .ok (.land, 1) := by decide +kernel
theorem dX5_sizeOfText_27 : decode cX5_sizeOfText 27 = .ok (.l2i, 1) := by decide +kernel
theorem dX5_sizeOfText_28 : decode cX5_sizeOfText 28 = .ok (.bipush 33, 2) := by decide +kernel
theorem dX5_sizeOfText_30 : decode cX5_sizeOfText 30 = .ok (.bipush 126, 2) := by decide +kernel
theorem dX5_sizeOfText_32 : decode cX5_sizeOfText 32 = .ok (.invokestatic 40, 3) := by decide +kernel
theorem dX5_sizeOfText_35 : decode cX5_sizeOfText 35 = .ok (.ifCond .eq 5, 3) := by decide +kernel
theorem dX5_sizeOfText_38 : decode cX5_sizeOfText 38 = .ok (.iconst 0, 1) := by decide +kernel
theorem dX5_sizeOfText_39 : decode cX5_sizeOfText 39 = .ok (.ireturn, 1) := by decide +kernel
theorem dX5_sizeOfText_40 : decode cX5_sizeOfText 40 = .ok (.lload_n 2, 1) := by decide +kernel
theorem dX5_sizeOfText_41 : decode cX5_sizeOfText 41 = .ok (.bipush 8, 2) := by decide +kernel
theorem dX5_sizeOfText_43 : decode cX5_sizeOfText 43 = .ok (.lushr, 1) := by decide +kernel
theorem dX5_sizeOfText_44 : decode cX5_sizeOfText 44 = .ok (.lstore_n 2, 1) := by decide +kernel
theorem dX5_sizeOfText_45 : decode cX5_sizeOfText 45 = .ok (.iinc 4 1, 3) := by decide +kernel
theorem dX5_sizeOfText_48 : decode cX5_sizeOfText 48 = .ok (.goto (-43), 3) := by decide +kernel
theorem dX5_sizeOfText_51 : decode cX5_sizeOfText 51 = .ok (.lload_n 2, 1) := by decide +kernel
theorem dX5_sizeOfText_52 : decode cX5_sizeOfText 52 = .ok (.lconst 0, 1) := by decide +kernel
theorem dX5_sizeOfText_53 : decode cX5_sizeOfText 53 = .ok (.lcmp, 1) := by decide +kernel
theorem dX5_sizeOfText_54 : decode cX5_sizeOfText 54 = .ok (.ifCond .ne 8, 3) := by decide +kernel
theorem dX5_sizeOfText_57 : decode cX5_sizeOfText 57 = .ok (.iload 4, 2) := by decide +kernel
theorem dX5_sizeOfText_59 : decode cX5_sizeOfText 59 = .ok (.goto 4, 3) := by decide +kernel
theorem dX5_sizeOfText_62 : decode cX5_sizeOfText 62 = .ok (.iconst 0, 1) := by decide +kernel
theorem dX5_sizeOfText_63 : decode cX5_sizeOfText 63 = .ok (.ireturn, 1) := by decide +kernel
set_option maxRecDepth 20000 in
theorem ggX5_doOrder_X3_makeSome : GoodIn wsX5_doOrder wsX3_makeSome := goodIn_r _ [15, 16, 17, 18, 14, 19, 20, 21, 22, 23, 24, 25, 26, 27, 28, 29, 30, 31, 32, 33, 34, 35, 36, 37, 38, 39, 40, 41, 42, 43, 44, 45, 46, 47, 48, 49, 50, 51, 52, 53, 54, 55, 56, 57, 58, 59, 60, 61, 62, 63, 64, 65, 66, 67, 68, 69, 70, 71, 72, 73, 74, 75, 76, 77, 78, 79, 80, 81, 82, 83, 84, 85, 86, 114, 115, 116, 117, 118, 119, 120, 121, 122, 123, 124, 125, 126, 127, 128, 129, 130, 131] (by decide +kernel) (by decide +kernel)
set_option maxRecDepth 20000 in
theorem gX5_doOrder_X3_makeSome : GoodIn wsX5_doOrder (wsV RX5 113 RX3 yX3_makeSome wsX3_makeSome) := goodIn_app (goodIn_of _ (by decide +kernel)) ggX5_doOrder_X3_makeSome
set_option maxRecDepth 20000 in
theorem ggX5_doOrder_X5_isNoWheel : GoodIn wsX5_doOrder wsX5_isNoWheel := goodIn_r _ [90, 91, 92, 89, 93] (by decide +kernel) (by decide +kernel)
set_option maxRecDepth 20000 in
theorem gX5_doOrder_X5_isNoWheel : GoodIn wsX5_doOrder (va_wsS RX5 63 yX5_isNoWheel wsX5_isNoWheel) := goodIn_app (goodIn_of _ (by decide +kernel)) ggX5_doOrder_X5_isNoWheel
set_option maxRecDepth 20000 in
theorem ggX5_doOrder_X4_changeStep : GoodIn wsX5_doOrder wsX4_changeStep := goodIn_r _ [97, 68, 70, 122, 123, 124, 125, 126, 127, 128, 129, 130, 131] (by decide +kernel) (by decide +kernel)
set_option maxRecDepth 20000 in
theorem gX5_doOrder_X4_changeStep : GoodIn wsX5_doOrder (wsV RX5 76 RX4 yX4_changeStep wsX4_changeStep) := goodIn_app (goodIn_of _ (by decide +kernel)) ggX5_doOrder_X4_changeStep
set_option maxRecDepth 20000 in
theorem ggX5_doOrder_X4_addSweep : GoodIn wsX5_doOrder wsX4_addSweep := goodIn_r _ [101, 70, 78, 75, 83, 84, 85, 65, 86, 68, 77, 76, 122, 123, 124, 125, 126, 127, 128, 129, 130, 131] (by decide +kernel) (by decide +kernel)
set_option maxRecDepth 20000 in
theorem gX5_doOrder_X4_addSweep : GoodIn wsX5_doOrder (wsV RX5 106 RX4 yX4_addSweep wsX4_addSweep) := goodIn_app (goodIn_of _ (by decide +kernel)) ggX5_doOrder_X4_addSweep
theorem dX5_doOrder_0 : decode cX5_doOrder 0 = .ok (.aload_n 0, 1) := by decide +kernel
theorem dX5_doOrder_1 : decode cX5_doOrder 1 = .ok (.getfield 36, 3) := by decide +kernel
theorem dX5_doOrder_4 : decode cX5_doOrder 4 = .ok (.getfield 219, 3) := by decide +kernel
theorem dX5_doOrder_7 : decode cX5_doOrder 7 = .ok (.bipush 46, 2) := by decide +kernel
theorem dX5_doOrder_9 : decode cX5_doOrder 9 = .ok (.if_icmp .ne 18, 3) := by decide +kernel
theorem dX5_doOrder_12 : decode cX5_doOrder 12 = .ok (.aload_n 0, 1) := by decide +kernel
theorem dX5_doOrder_13 : decode cX5_doOrder 13 = .ok (.getfield 10, 3) := by decide +kernel
theorem dX5_doOrder_16 : decode cX5_doOrder 16 = .ok (.aload_n 0, 1) := by decide +kernel
theorem dX5_doOrder_17 : decode cX5_doOrder 17 = .ok (.getfield 36, 3) := by decide +kernel
theorem dX5_doOrder_20 : decode cX5_doOrder 20 = .ok (.getfield 222, 3) := by decide +kernel
theorem dX5_doOrder_23 : decode cX5_doOrder 23 = .ok (.invokevirtual 113, 3) := by decide +kernel
theorem dX5_doOrder_26 : decode cX5_doOrder 26 = .ok (.ireturn, 1) := by decide +kernel
theorem dX5_doOrder_27 : decode cX5_doOrder 27 = .ok (.aload_n 0, 1) := by decide +kernel
theorem dX5_doOrder_28 : decode cX5_doOrder 28 = .ok (.getfield 36, 3) := by decide +kernel
theorem dX5_doOrder_31 : decode cX5_doOrder 31 = .ok (.getfield 225, 3) := by decide +kernel
theorem dX5_doOrder_34 : decode cX5_doOrder 34 = .ok (.invokestatic 63, 3) := by decide +kernel
theorem dX5_doOrder_37 : decode cX5_doOrder 37 = .ok (.ifCond .eq 5, 3) := by decide +kernel
theorem dX5_doOrder_40 : decode cX5_doOrder 40 = .ok (.iconst 0, 1) := by decide +kernel
theorem dX5_doOrder_41 : decode cX5_doOrder 41 = .ok (.ireturn, 1) := by decide +kernel
theorem dX5_doOrder_42 : decode cX5_doOrder 42 = .ok (.aload_n 0, 1) := by decide +kernel
theorem dX5_doOrder_43 : decode cX5_doOrder 43 = .ok (.getfield 10, 3) := by decide +kernel
theorem dX5_doOrder_46 : decode cX5_doOrder 46 = .ok (.getfield 67, 3) := by decide +kernel
theorem dX5_doOrder_49 : decode cX5_doOrder 49 = .ok (.aload_n 0, 1) := by decide +kernel
theorem dX5_doOrder_50 : decode cX5_doOrder 50 = .ok (.getfield 36, 3) := by decide +kernel
theorem dX5_doOrder_53 : decode cX5_doOrder 53 = .ok (.getfield 225, 3) := by decide +kernel
theorem dX5_doOrder_56 : decode cX5_doOrder 56 = .ok (.aaload, 1) := by decide +kernel
theorem dX5_doOrder_57 : decode cX5_doOrder 57 = .ok (.astore_n 1, 1) := by decide +kernel
theorem dX5_doOrder_58 : decode cX5_doOrder 58 = .ok (.aload_n 0, 1) := by decide +kernel
theorem dX5_doOrder_59 : decode cX5_doOrder 59 = .ok (.getfield 36, 3) := by decide +kernel
theorem dX5_doOrder_62 : decode cX5_doOrder 62 = .ok (.getfield 219, 3) := by decide +kernel
theorem dX5_doOrder_65 : decode cX5_doOrder 65 = .ok (.lookupswitch 127 #[(62, 108), (111, 90), (115, 51), (116, 64), (118, 77)], 51) := by decide +kernel
theorem dX5_doOrder_116 : decode cX5_doOrder 116 = .ok (.aload_n 1, 1) := by decide +kernel
theorem dX5_doOrder_117 : decode cX5_doOrder 117 = .ok (.aload_n 0, 1) := by decide +kernel
theorem dX5_doOrder_118 : decode cX5_doOrder 118 = .ok (.getfield 36, 3) := by decide +kernel
theorem dX5_doOrder_121 : decode cX5_doOrder 121 = .ok (.getfield 228, 3) := by decide +kernel
theorem dX5_doOrder_124 : decode cX5_doOrder 124 = .ok (.invokevirtual 76, 3) := by decide +kernel
theorem dX5_doOrder_127 : decode cX5_doOrder 127 = .ok (.iconst 1, 1) := by decide +kernel
theorem dX5_doOrder_128 : decode cX5_doOrder 128 = .ok (.ireturn, 1) := by decide +kernel
theorem dX5_doOrder_129 : decode cX5_doOrder 129 = .ok (.aload_n 1, 1) := by decide +kernel
theorem dX5_doOrder_130 : decode cX5_doOrder 130 = .ok (.aload_n 0, 1) := by decide +kernel
theorem dX5_doOrder_131 : decode cX5_doOrder 131 = .ok (.getfield 36, 3) := by decide +kernel
theorem dX5_doOrder_134 : decode cX5_doOrder 134 = .ok (.getfield 228, 3) := by decide +kernel
theorem dX5_doOrder_137 : decode cX5_doOrder 137 = .ok (.putfield 80, 3) := by decide +kernel
theorem dX5_doOrder_140 : decode cX5_doOrder 140 = .ok (.iconst 1, 1) := by decide +kernel
theorem dX5_doOrder_141 : decode cX5_doOrder 141 = .ok (.ireturn, 1) := by decide +kernel
theorem dX5_doOrder_142 : decode cX5_doOrder 142 = .ok (.aload_n 1, 1) := by decide +kernel
theorem dX5_doOrder_143 : decode cX5_doOrder 143 = .ok (.aload_n 0, 1) := by decide +kernel
theorem dX5_doOrder_144 : decode cX5_doOrder 144 = .ok (.getfield 36, 3) := by decide +kernel
theorem dX5_doOrder_147 : decode cX5_doOrder 147 = .ok (.getfield 228, 3) := by decide +kernel
theorem dX5_doOrder_150 : decode cX5_doOrder 150 = .ok (.putfield 83, 3) := by decide +kernel
theorem dX5_doOrder_153 : decode cX5_doOrder 153 = .ok (.iconst 1, 1) := by decide +kernel
theorem dX5_doOrder_154 : decode cX5_doOrder 154 = .ok (.ireturn, 1) := by decide +kernel
theorem dX5_doOrder_155 : decode cX5_doOrder 155 = .ok (.aload_n 1, 1) := by decide +kernel
theorem dX5_doOrder_156 : decode cX5_doOrder 156 = .ok (.aload_n 1, 1) := by decide +kernel
theorem dX5_doOrder_157 : decode cX5_doOrder 157 = .ok (.getfield 86, 3) := by decide +kernel
theorem dX5_doOrder_160 : decode cX5_doOrder 160 = .ok (.ifCond .ne 7, 3) := by decide +kernel
theorem dX5_doOrder_163 : decode cX5_doOrder 163 = .ok (.iconst 1, 1) := by decide +kernel
theorem dX5_doOrder_164 : decode cX5_doOrder 164 = .ok (.goto 4, 3) := by decide +kernel
theorem dX5_doOrder_167 : decode cX5_doOrder 167 = .ok (.iconst 0, 1) := by decide +kernel
theorem dX5_doOrder_168 : decode cX5_doOrder 168 = .ok (.putfield 86, 3) := by decide +kernel
theorem dX5_doOrder_171 : decode cX5_doOrder 171 = .ok (.iconst 1, 1) := by decide +kernel
theorem dX5_doOrder_172 : decode cX5_doOrder 172 = .ok (.ireturn, 1) := by decide +kernel
theorem dX5_doOrder_173 : decode cX5_doOrder 173 = .ok (.aload_n 1, 1) := by decide +kernel
theorem dX5_doOrder_174 : decode cX5_doOrder 174 = .ok (.aload_n 0, 1) := by decide +kernel
theorem dX5_doOrder_175 : decode cX5_doOrder 175 = .ok (.getfield 36, 3) := by decide +kernel
theorem dX5_doOrder_178 : decode cX5_doOrder 178 = .ok (.getfield 228, 3) := by decide +kernel
theorem dX5_doOrder_181 : decode cX5_doOrder 181 = .ok (.aload_n 0, 1) := by decide +kernel
theorem dX5_doOrder_182 : decode cX5_doOrder 182 = .ok (.getfield 36, 3) := by decide +kernel
theorem dX5_doOrder_185 : decode cX5_doOrder 185 = .ok (.getfield 222, 3) := by decide +kernel
theorem dX5_doOrder_188 : decode cX5_doOrder 188 = .ok (.invokevirtual 106, 3) := by decide +kernel
theorem dX5_doOrder_191 : decode cX5_doOrder 191 = .ok (.ireturn, 1) := by decide +kernel
theorem dX5_doOrder_192 : decode cX5_doOrder 192 = .ok (.iconst 0, 1) := by decide +kernel
theorem dX5_doOrder_193 : decode cX5_doOrder 193 = .ok (.ireturn, 1) := by decide +kernel
set_option maxRecDepth 20000 in
theorem ggX6_init_X6_w : GoodIn wsX6_init wsX6_w := goodIn_r _ [18] (by decide +kernel) (by decide +kernel)
set_option maxRecDepth 20000 in
theorem gX6_init_X6_w : GoodIn wsX6_init (va_wsS RX6 36 yX6_w wsX6_w) := goodIn_app (goodIn_of _ (by decide +kernel)) ggX6_init_X6_w
theorem dX6_init_0 : decode cX6_init 0 = .ok (.aload_n 0, 1) := by decide +kernel
theorem dX6_init_1 : decode cX6_init 1 = .ok (.invokespecial 1, 3) := by decide +kernel
theorem dX6_init_4 : decode cX6_init 4 = .ok (.aload_n 0, 1) := by decide +kernel
theorem dX6_init_5 : decode cX6_init 5 = .ok (.sipush 166, 3) := by decide +kernel
theorem dX6_init_8 : decode cX6_init 8 = .ok (.newarray .int, 2) := by decide +kernel
theorem dX6_init_10 : decode cX6_init 10 = .ok (.putfield 7, 3) := by decide +kernel
theorem dX6_init_13 : decode cX6_init 13 = .ok (.aload_n 0, 1) := by decide +kernel
theorem dX6_init_14 : decode cX6_init 14 = .ok (.sipush 166, 3) := by decide +kernel
theorem dX6_init_17 : decode cX6_init 17 = .ok (.newarray .int, 2) := by decide +kernel
theorem dX6_init_19 : decode cX6_init 19 = .ok (.putfield 13, 3) := by decide +kernel
theorem dX6_init_22 : decode cX6_init 22 = .ok (.aload_n 0, 1) := by decide +kernel
theorem dX6_init_23 : decode cX6_init 23 = .ok (.sipush 166, 3) := by decide +kernel
theorem dX6_init_26 : decode cX6_init 26 = .ok (.newarray .int, 2) := by decide +kernel
theorem dX6_init_28 : decode cX6_init 28 = .ok (.putfield 16, 3) := by decide +kernel
theorem dX6_init_31 : decode cX6_init 31 = .ok (.aload_n 0, 1) := by decide +kernel
theorem dX6_init_32 : decode cX6_init 32 = .ok (.sipush 996, 3) := by decide +kernel
theorem dX6_init_35 : decode cX6_init 35 = .ok (.newarray .int, 2) := by decide +kernel
theorem dX6_init_37 : decode cX6_init 37 = .ok (.putfield 19, 3) := by decide +kernel
theorem dX6_init_40 : decode cX6_init 40 = .ok (.aload_n 0, 1) := by decide +kernel
theorem dX6_init_41 : decode cX6_init 41 = .ok (.sipush 332, 3) := by decide +kernel
theorem dX6_init_44 : decode cX6_init 44 = .ok (.newarray .int, 2) := by decide +kernel
theorem dX6_init_46 : decode cX6_init 46 = .ok (.putfield 22, 3) := by decide +kernel
theorem dX6_init_49 : decode cX6_init 49 = .ok (.aload_n 0, 1) := by decide +kernel
theorem dX6_init_50 : decode cX6_init 50 = .ok (.iconst 2, 1) := by decide +kernel
theorem dX6_init_51 : decode cX6_init 51 = .ok (.newarray .boolean, 2) := by decide +kernel
theorem dX6_init_53 : decode cX6_init 53 = .ok (.putfield 25, 3) := by decide +kernel
theorem dX6_init_56 : decode cX6_init 56 = .ok (.aload_n 0, 1) := by decide +kernel
theorem dX6_init_57 : decode cX6_init 57 = .ok (.bipush 84, 2) := by decide +kernel
theorem dX6_init_59 : decode cX6_init 59 = .ok (.newarray .int, 2) := by decide +kernel
theorem dX6_init_61 : decode cX6_init 61 = .ok (.putfield 29, 3) := by decide +kernel
theorem dX6_init_64 : decode cX6_init 64 = .ok (.aload_n 0, 1) := by decide +kernel
theorem dX6_init_65 : decode cX6_init 65 = .ok (.bipush 60, 2) := by decide +kernel
theorem dX6_init_67 : decode cX6_init 67 = .ok (.newarray .char, 2) := by decide +kernel
theorem dX6_init_69 : decode cX6_init 69 = .ok (.putfield 32, 3) := by decide +kernel
theorem dX6_init_72 : decode cX6_init 72 = .ok (.aload_n 0, 1) := by decide +kernel
theorem dX6_init_73 : decode cX6_init 73 = .ok (.getfield 7, 3) := by decide +kernel
theorem dX6_init_76 : decode cX6_init 76 = .ok (.iconst 0, 1) := by decide +kernel
theorem dX6_init_77 : decode cX6_init 77 = .ok (.sipush 400, 3) := by decide +kernel
theorem dX6_init_80 : decode cX6_init 80 = .ok (.iastore, 1) := by decide +kernel
theorem dX6_init_81 : decode cX6_init 81 = .ok (.aload_n 0, 1) := by decide +kernel
theorem dX6_init_82 : decode cX6_init 82 = .ok (.getfield 7, 3) := by decide +kernel
theorem dX6_init_85 : decode cX6_init 85 = .ok (.iconst 5, 1) := by decide +kernel
theorem dX6_init_86 : decode cX6_init 86 = .ok (.iconst (-1), 1) := by decide +kernel
theorem dX6_init_87 : decode cX6_init 87 = .ok (.iastore, 1) := by decide +kernel
theorem dX6_init_88 : decode cX6_init 88 = .ok (.iconst 0, 1) := by decide +kernel
theorem dX6_init_89 : decode cX6_init 89 = .ok (.istore_n 1, 1) := by decide +kernel
theorem dX6_init_90 : decode cX6_init 90 = .ok (.iload_n 1, 1) := by decide +kernel
theorem dX6_init_91 : decode cX6_init 91 = .ok (.bipush 16, 2) := by decide +kernel
theorem dX6_init_93 : decode cX6_init 93 = .ok (.if_icmp .ge 67, 3) := by decide +kernel
theorem dX6_init_96 : decode cX6_init 96 = .ok (.aload_n 0, 1) := by decide +kernel
theorem dX6_init_97 : decode cX6_init 97 = .ok (.getfield 7, 3) := by decide +kernel
theorem dX6_init_100 : decode cX6_init 100 = .ok (.bipush 6, 2) := by decide +kernel
theorem dX6_init_102 : decode cX6_init 102 = .ok (.iload_n 1, 1) := by decide +kernel
theorem dX6_init_103 : decode cX6_init 103 = .ok (.iadd, 1) := by decide +kernel
theorem dX6_init_104 : decode cX6_init 104 = .ok (.iload_n 1, 1) := by decide +kernel
theorem dX6_init_105 : decode cX6_init 105 = .ok (.iastore, 1) := by decide +kernel
theorem dX6_init_106 : decode cX6_init 106 = .ok (.aload_n 0, 1) := by decide +kernel
theorem dX6_init_107 : decode cX6_init 107 = .ok (.getfield 7, 3) := by decide +kernel
theorem dX6_init_110 : decode cX6_init 110 = .ok (.bipush 22, 2) := by decide +kernel
theorem dX6_init_112 : decode cX6_init 112 = .ok (.iload_n 1, 1) := by decide +kernel
theorem dX6_init_113 : decode cX6_init 113 = .ok (.iadd, 1) := by decide +kernel
theorem dX6_init_114 : decode cX6_init 114 = .ok (.iload_n 1, 1) := by decide +kernel
theorem dX6_init_115 : decode cX6_init 115 = .ok (.bipush 8, 2) := by decide +kernel
theorem dX6_init_117 : decode cX6_init 117 = .ok (.if_icmp .ge 9, 3) := by decide +kernel
theorem dX6_init_120 : decode cX6_init 120 = .ok (.iconst 2, 1) := by decide +kernel
theorem dX6_init_121 : decode cX6_init 121 = .ok (.iload_n 1, 1) := by decide +kernel
theorem dX6_init_122 : decode cX6_init 122 = .ok (.imul, 1) := by decide +kernel
theorem dX6_init_123 : decode cX6_init 123 = .ok (.goto 9, 3) := by decide +kernel
theorem dX6_init_126 : decode cX6_init 126 = .ok (.bipush 30, 2) := by decide +kernel
theorem dX6_init_128 : decode cX6_init 128 = .ok (.iconst 2, 1) := by decide +kernel
theorem dX6_init_129 : decode cX6_init 129 = .ok (.iload_n 1, 1) := by decide +kernel
theorem dX6_init_130 : decode cX6_init 130 = .ok (.imul, 1) := by decide +kernel
theorem dX6_init_131 : decode cX6_init 131 = .ok (.isub, 1) := by decide +kernel
theorem dX6_init_132 : decode cX6_init 132 = .ok (.iastore, 1) := by decide +kernel
theorem dX6_init_133 : decode cX6_init 133 = .ok (.aload_n 0, 1) := by decide +kernel
theorem dX6_init_134 : decode cX6_init 134 = .ok (.getfield 7, 3) := by decide +kernel
theorem dX6_init_137 : decode cX6_init 137 = .ok (.bipush 38, 2) := by decide +kernel
theorem dX6_init_139 : decode cX6_init 139 = .ok (.iload_n 1, 1) := by decide +kernel
theorem dX6_init_140 : decode cX6_init 140 = .ok (.iadd, 1) := by decide +kernel
theorem dX6_init_141 : decode cX6_init 141 = .ok (.iload_n 1, 1) := by decide +kernel
theorem dX6_init_142 : decode cX6_init 142 = .ok (.bipush 8, 2) := by decide +kernel
theorem dX6_init_144 : decode cX6_init 144 = .ok (.if_icmp .ge 8, 3) := by decide +kernel
theorem dX6_init_147 : decode cX6_init 147 = .ok (.bipush 15, 2) := by decide +kernel
theorem dX6_init_149 : decode cX6_init 149 = .ok (.goto 4, 3) := by decide +kernel
theorem dX6_init_152 : decode cX6_init 152 = .ok (.iconst 0, 1) := by decide +kernel
theorem dX6_init_153 : decode cX6_init 153 = .ok (.iastore, 1) := by decide +kernel
theorem dX6_init_154 : decode cX6_init 154 = .ok (.iinc 1 1, 3) := by decide +kernel
theorem dX6_init_157 : decode cX6_init 157 = .ok (.goto (-67), 3) := by decide +kernel
theorem dX6_init_160 : decode cX6_init 160 = .ok (.iconst 0, 1) := by decide +kernel
theorem dX6_init_161 : decode cX6_init 161 = .ok (.istore_n 1, 1) := by decide +kernel
theorem dX6_init_162 : decode cX6_init 162 = .ok (.iload_n 1, 1) := by decide +kernel
theorem dX6_init_163 : decode cX6_init 163 = .ok (.iconst 4, 1) := by decide +kernel
theorem dX6_init_164 : decode cX6_init 164 = .ok (.if_icmp .ge 36, 3) := by decide +kernel
theorem dX6_init_167 : decode cX6_init 167 = .ok (.aload_n 0, 1) := by decide +kernel
theorem dX6_init_168 : decode cX6_init 168 = .ok (.getfield 7, 3) := by decide +kernel
theorem dX6_init_171 : decode cX6_init 171 = .ok (.iload_n 1, 1) := by decide +kernel
theorem dX6_init_172 : decode cX6_init 172 = .ok (.invokestatic 36, 3) := by decide +kernel
theorem dX6_init_175 : decode cX6_init 175 = .ok (.iconst 1, 1) := by decide +kernel
theorem dX6_init_176 : decode cX6_init 176 = .ok (.iadd, 1) := by decide +kernel
theorem dX6_init_177 : decode cX6_init 177 = .ok (.sipush 1024, 3) := by decide +kernel
theorem dX6_init_180 : decode cX6_init 180 = .ok (.iastore, 1) := by decide +kernel
theorem dX6_init_181 : decode cX6_init 181 = .ok (.aload_n 0, 1) := by decide +kernel
theorem dX6_init_182 : decode cX6_init 182 = .ok (.getfield 7, 3) := by decide +kernel
theorem dX6_init_185 : decode cX6_init 185 = .ok (.iload_n 1, 1) := by decide +kernel
theorem dX6_init_186 : decode cX6_init 186 = .ok (.invokestatic 36, 3) := by decide +kernel
theorem dX6_init_189 : decode cX6_init 189 = .ok (.iconst 3, 1) := by decide +kernel
theorem dX6_init_190 : decode cX6_init 190 = .ok (.iadd, 1) := by decide +kernel
theorem dX6_init_191 : decode cX6_init 191 = .ok (.bipush 8, 2) := by decide +kernel
theorem dX6_init_193 : decode cX6_init 193 = .ok (.iastore, 1) := by decide +kernel
theorem dX6_init_194 : decode cX6_init 194 = .ok (.iinc 1 1, 3) := by decide +kernel
theorem dX6_init_197 : decode cX6_init 197 = .ok (.goto (-35), 3) := by decide +kernel
theorem dX6_init_200 : decode cX6_init 200 = .ok (.aload_n 0, 1) := by decide +kernel
theorem dX6_init_201 : decode cX6_init 201 = .ok (.getfield 7, 3) := by decide +kernel
theorem dX6_init_204 : decode cX6_init 204 = .ok (.bipush 74, 2) := by decide +kernel
theorem dX6_init_206 : decode cX6_init 206 = .ok (.iconst 1, 1) := by decide +kernel
theorem dX6_init_207 : decode cX6_init 207 = .ok (.iastore, 1) := by decide +kernel
theorem dX6_init_208 : decode cX6_init 208 = .ok (.return_, 1) := by decide +kernel
theorem dX6_in_0 : decode cX6_in 0 = .ok (.iload_n 0, 1) := by decide +kernel
theorem dX6_in_1 : decode cX6_in 1 = .ok (.iload_n 1, 1) := by decide +kernel
theorem dX6_in_2 : decode cX6_in 2 = .ok (.if_icmp .lt 12, 3) := by decide +kernel
theorem dX6_in_5 : decode cX6_in 5 = .ok (.iload_n 0, 1) := by decide +kernel
theorem dX6_in_6 : decode cX6_in 6 = .ok (.iload_n 2, 1) := by decide +kernel
theorem dX6_in_7 : decode cX6_in 7 = .ok (.if_icmp .gt 7, 3) := by decide +kernel
theorem dX6_in_10 : decode cX6_in 10 = .ok (.iconst 1, 1) := by decide +kernel
theorem dX6_in_11 : decode cX6_in 11 = .ok (.goto 4, 3) := by decide +kernel
theorem dX6_in_14 : decode cX6_in 14 = .ok (.iconst 0, 1) := by decide +kernel
theorem dX6_in_15 : decode cX6_in 15 = .ok (.ireturn, 1) := by decide +kernel
theorem dX6_w_0 : decode cX6_w 0 = .ok (.bipush 70, 2) := by decide +kernel
theorem dX6_w_2 : decode cX6_w 2 = .ok (.bipush 16, 2) := by decide +kernel
theorem dX6_w_4 : decode cX6_w 4 = .ok (.iload_n 0, 1) := by decide +kernel
theorem dX6_w_5 : decode cX6_w 5 = .ok (.imul, 1) := by decide +kernel
theorem dX6_w_6 : decode cX6_w 6 = .ok (.iadd, 1) := by decide +kernel
theorem dX6_w_7 : decode cX6_w 7 = .ok (.ireturn, 1) := by decide +kernel
set_option maxRecDepth 20000 in
theorem ggX6_isOne_X6_in : GoodIn wsX6_isOne wsX6_in := goodIn_r _ [4] (by decide +kernel) (by decide +kernel)
set_option maxRecDepth 20000 in
theorem gX6_isOne_X6_in : GoodIn wsX6_isOne (va_wsS RX6 40 yX6_in wsX6_in) := goodIn_app (goodIn_of _ (by decide +kernel)) ggX6_isOne_X6_in
theorem dX6_isOne_0 : decode cX6_isOne 0 = .ok (.iload_n 0, 1) := by decide +kernel
theorem dX6_isOne_1 : decode cX6_isOne 1 = .ok (.iconst 0, 1) := by decide +kernel
theorem dX6_isOne_2 : decode cX6_isOne 2 = .ok (.iconst 3, 1) := by decide +kernel
theorem dX6_isOne_3 : decode cX6_isOne 3 = .ok (.invokestatic 40, 3) := by decide +kernel
theorem dX6_isOne_6 : decode cX6_isOne 6 = .ok (.ireturn, 1) := by decide +kernel
theorem dX6_hold_0 : decode cX6_hold 0 = .ok (.iconst 0, 1) := by decide +kernel
theorem dX6_hold_1 : decode cX6_hold 1 = .ok (.istore_n 1, 1) := by decide +kernel
theorem dX6_hold_2 : decode cX6_hold 2 = .ok (.iload_n 1, 1) := by decide +kernel
theorem dX6_hold_3 : decode cX6_hold 3 = .ok (.sipush 166, 3) := by decide +kernel
theorem dX6_hold_6 : decode cX6_hold 6 = .ok (.if_icmp .ge 21, 3) := by decide +kernel
theorem dX6_hold_9 : decode cX6_hold 9 = .ok (.aload_n 0, 1) := by decide +kernel
theorem dX6_hold_10 : decode cX6_hold 10 = .ok (.getfield 13, 3) := by decide +kernel
theorem dX6_hold_13 : decode cX6_hold 13 = .ok (.iload_n 1, 1) := by decide +kernel
theorem dX6_hold_14 : decode cX6_hold 14 = .ok (.aload_n 0, 1) := by decide +kernel
theorem dX6_hold_15 : decode cX6_hold 15 = .ok (.getfield 7, 3) := by decide +kernel
theorem dX6_hold_18 : decode cX6_hold 18 = .ok (.iload_n 1, 1) := by decide +kernel
theorem dX6_hold_19 : decode cX6_hold 19 = .ok (.iaload, 1) := by decide +kernel
theorem dX6_hold_20 : decode cX6_hold 20 = .ok (.iastore, 1) := by decide +kernel
theorem dX6_hold_21 : decode cX6_hold 21 = .ok (.iinc 1 1, 3) := by decide +kernel
theorem dX6_hold_24 : decode cX6_hold 24 = .ok (.goto (-22), 3) := by decide +kernel
theorem dX6_hold_27 : decode cX6_hold 27 = .ok (.return_, 1) := by decide +kernel
theorem dX6_recorded_0 : decode cX6_recorded 0 = .ok (.iload_n 1, 1) := by decide +kernel
theorem dX6_recorded_1 : decode cX6_recorded 1 = .ok (.ifCond .lt 99, 3) := by decide +kernel
theorem dX6_recorded_4 : decode cX6_recorded 4 = .ok (.aload_n 0, 1) := by decide +kernel
theorem dX6_recorded_5 : decode cX6_recorded 5 = .ok (.getfield 44, 3) := by decide +kernel
theorem dX6_recorded_8 : decode cX6_recorded 8 = .ok (.bipush 6, 2) := by decide +kernel
theorem dX6_recorded_10 : decode cX6_recorded 10 = .ok (.if_icmp .ne 44, 3) := by decide +kernel
theorem dX6_recorded_13 : decode cX6_recorded 13 = .ok (.iconst 0, 1) := by decide +kernel
theorem dX6_recorded_14 : decode cX6_recorded 14 = .ok (.istore_n 2, 1) := by decide +kernel
theorem dX6_recorded_15 : decode cX6_recorded 15 = .ok (.iload_n 2, 1) := by decide +kernel
theorem dX6_recorded_16 : decode cX6_recorded 16 = .ok (.sipush 830, 3) := by decide +kernel
theorem dX6_recorded_19 : decode cX6_recorded 19 = .ok (.if_icmp .ge 25, 3) := by decide +kernel
theorem dX6_recorded_22 : decode cX6_recorded 22 = .ok (.aload_n 0, 1) := by decide +kernel
theorem dX6_recorded_23 : decode cX6_recorded 23 = .ok (.getfield 19, 3) := by decide +kernel
theorem dX6_recorded_26 : decode cX6_recorded 26 = .ok (.iload_n 2, 1) := by decide +kernel
theorem dX6_recorded_27 : decode cX6_recorded 27 = .ok (.aload_n 0, 1) := by decide +kernel
theorem dX6_recorded_28 : decode cX6_recorded 28 = .ok (.getfield 19, 3) := by decide +kernel
theorem dX6_recorded_31 : decode cX6_recorded 31 = .ok (.sipush 166, 3) := by decide +kernel
theorem dX6_recorded_34 : decode cX6_recorded 34 = .ok (.iload_n 2, 1) := by decide +kernel
theorem dX6_recorded_35 : decode cX6_recorded 35 = .ok (.iadd, 1) := by decide +kernel
theorem dX6_recorded_36 : decode cX6_recorded 36 = .ok (.iaload, 1) := by decide +kernel
theorem dX6_recorded_37 : decode cX6_recorded 37 = .ok (.iastore, 1) := by decide +kernel
theorem dX6_recorded_38 : decode cX6_recorded 38 = .ok (.iinc 2 1, 3) := by decide +kernel
theorem dX6_recorded_41 : decode cX6_recorded 41 = .ok (.goto (-26), 3) := by decide +kernel
theorem dX6_recorded_44 : decode cX6_recorded 44 = .ok (.aload_n 0, 1) := by decide +kernel
theorem dX6_recorded_45 : decode cX6_recorded 45 = .ok (.dup, 1) := by decide +kernel
theorem dX6_recorded_46 : decode cX6_recorded 46 = .ok (.getfield 44, 3) := by decide +kernel
theorem dX6_recorded_49 : decode cX6_recorded 49 = .ok (.iconst 1, 1) := by decide +kernel
theorem dX6_recorded_50 : decode cX6_recorded 50 = .ok (.isub, 1) := by decide +kernel
theorem dX6_recorded_51 : decode cX6_recorded 51 = .ok (.putfield 44, 3) := by decide +kernel
theorem dX6_recorded_54 : decode cX6_recorded 54 = .ok (.iconst 0, 1) := by decide +kernel
theorem dX6_recorded_55 : decode cX6_recorded 55 = .ok (.istore_n 2, 1) := by decide +kernel
theorem dX6_recorded_56 : decode cX6_recorded 56 = .ok (.iload_n 2, 1) := by decide +kernel
theorem dX6_recorded_57 : decode cX6_recorded 57 = .ok (.sipush 166, 3) := by decide +kernel
theorem dX6_recorded_60 : decode cX6_recorded 60 = .ok (.if_icmp .ge 30, 3) := by decide +kernel
theorem dX6_recorded_63 : decode cX6_recorded 63 = .ok (.aload_n 0, 1) := by decide +kernel
theorem dX6_recorded_64 : decode cX6_recorded 64 = .ok (.getfield 19, 3) := by decide +kernel
theorem dX6_recorded_67 : decode cX6_recorded 67 = .ok (.sipush 166, 3) := by decide +kernel
theorem dX6_recorded_70 : decode cX6_recorded 70 = .ok (.aload_n 0, 1) := by decide +kernel
theorem dX6_recorded_71 : decode cX6_recorded 71 = .ok (.getfield 44, 3) := by decide +kernel
theorem dX6_recorded_74 : decode cX6_recorded 74 = .ok (.imul, 1) := by decide +kernel
theorem dX6_recorded_75 : decode cX6_recorded 75 = .ok (.iload_n 2, 1) := by decide +kernel
theorem dX6_recorded_76 : decode cX6_recorded 76 = .ok (.iadd, 1) := by decide +kernel
theorem dX6_recorded_77 : decode cX6_recorded 77 = .ok (.aload_n 0, 1) := by decide +kernel
theorem dX6_recorded_78 : decode cX6_recorded 78 = .ok (.getfield 13, 3) := by decide +kernel
theorem dX6_recorded_81 : decode cX6_recorded 81 = .ok (.iload_n 2, 1) := by decide +kernel
theorem dX6_recorded_82 : decode cX6_recorded 82 = .ok (.iaload, 1) := by decide +kernel
theorem dX6_recorded_83 : decode cX6_recorded 83 = .ok (.iastore, 1) := by decide +kernel
theorem dX6_recorded_84 : decode cX6_recorded 84 = .ok (.iinc 2 1, 3) := by decide +kernel
theorem dX6_recorded_87 : decode cX6_recorded 87 = .ok (.goto (-31), 3) := by decide +kernel
theorem dX6_recorded_90 : decode cX6_recorded 90 = .ok (.aload_n 0, 1) := by decide +kernel
theorem dX6_recorded_91 : decode cX6_recorded 91 = .ok (.dup, 1) := by decide +kernel
theorem dX6_recorded_92 : decode cX6_recorded 92 = .ok (.getfield 44, 3) := by decide +kernel
theorem dX6_recorded_95 : decode cX6_recorded 95 = .ok (.iconst 1, 1) := by decide +kernel
theorem dX6_recorded_96 : decode cX6_recorded 96 = .ok (.iadd, 1) := by decide +kernel
theorem dX6_recorded_97 : decode cX6_recorded 97 = .ok (.putfield 44, 3) := by decide +kernel
theorem dX6_recorded_100 : decode cX6_recorded 100 = .ok (.iload_n 1, 1) := by decide +kernel
theorem dX6_recorded_101 : decode cX6_recorded 101 = .ok (.ireturn, 1) := by decide +kernel
theorem dX6_keepTrial_0 : decode cX6_keepTrial 0 = .ok (.iconst 0, 1) := by decide +kernel
theorem dX6_keepTrial_1 : decode cX6_keepTrial 1 = .ok (.istore_n 1, 1) := by decide +kernel
theorem dX6_keepTrial_2 : decode cX6_keepTrial 2 = .ok (.iload_n 1, 1) := by decide +kernel
theorem dX6_keepTrial_3 : decode cX6_keepTrial 3 = .ok (.sipush 166, 3) := by decide +kernel
theorem dX6_keepTrial_6 : decode cX6_keepTrial 6 = .ok (.if_icmp .ge 21, 3) := by decide +kernel
theorem dX6_keepTrial_9 : decode cX6_keepTrial 9 = .ok (.aload_n 0, 1) := by decide +kernel
theorem dX6_keepTrial_10 : decode cX6_keepTrial 10 = .ok (.getfield 16, 3) := by decide +kernel
theorem dX6_keepTrial_13 : decode cX6_keepTrial 13 = .ok (.iload_n 1, 1) := by decide +kernel
theorem dX6_keepTrial_14 : decode cX6_keepTrial 14 = .ok (.aload_n 0, 1) := by decide +kernel
theorem dX6_keepTrial_15 : decode cX6_keepTrial 15 = .ok (.getfield 7, 3) := by decide +kernel
theorem dX6_keepTrial_18 : decode cX6_keepTrial 18 = .ok (.iload_n 1, 1) := by decide +kernel
theorem dX6_keepTrial_19 : decode cX6_keepTrial 19 = .ok (.iaload, 1) := by decide +kernel
theorem dX6_keepTrial_20 : decode cX6_keepTrial 20 = .ok (.iastore, 1) := by decide +kernel
theorem dX6_keepTrial_21 : decode cX6_keepTrial 21 = .ok (.iinc 1 1, 3) := by decide +kernel
theorem dX6_keepTrial_24 : decode cX6_keepTrial 24 = .ok (.goto (-22), 3) := by decide +kernel
theorem dX6_keepTrial_27 : decode cX6_keepTrial 27 = .ok (.return_, 1) := by decide +kernel
theorem dX6_putBack_0 : decode cX6_putBack 0 = .ok (.iconst 0, 1) := by decide +kernel
theorem dX6_putBack_1 : decode cX6_putBack 1 = .ok (.istore_n 1, 1) := by decide +kernel
theorem dX6_putBack_2 : decode cX6_putBack 2 = .ok (.iload_n 1, 1) := by decide +kernel
theorem dX6_putBack_3 : decode cX6_putBack 3 = .ok (.sipush 166, 3) := by decide +kernel
theorem dX6_putBack_6 : decode cX6_putBack 6 = .ok (.if_icmp .ge 21, 3) := by decide +kernel
theorem dX6_putBack_9 : decode cX6_putBack 9 = .ok (.aload_n 0, 1) := by decide +kernel
theorem dX6_putBack_10 : decode cX6_putBack 10 = .ok (.getfield 7, 3) := by decide +kernel
theorem dX6_putBack_13 : decode cX6_putBack 13 = .ok (.iload_n 1, 1) := by decide +kernel
theorem dX6_putBack_14 : decode cX6_putBack 14 = .ok (.aload_n 0, 1) := by decide +kernel
theorem dX6_putBack_15 : decode cX6_putBack 15 = .ok (.getfield 16, 3) := by decide +kernel
theorem dX6_putBack_18 : decode cX6_putBack 18 = .ok (.iload_n 1, 1) := by decide +kernel
theorem dX6_putBack_19 : decode cX6_putBack 19 = .ok (.iaload, 1) := by decide +kernel
theorem dX6_putBack_20 : decode cX6_putBack 20 = .ok (.iastore, 1) := by decide +kernel
theorem dX6_putBack_21 : decode cX6_putBack 21 = .ok (.iinc 1 1, 3) := by decide +kernel
theorem dX6_putBack_24 : decode cX6_putBack 24 = .ok (.goto (-22), 3) := by decide +kernel
theorem dX6_putBack_27 : decode cX6_putBack 27 = .ok (.return_, 1) := by decide +kernel
set_option maxRecDepth 20000 in
theorem ggX6_gives_X6_w : GoodIn wsX6_gives wsX6_w := goodIn_r _ [5] (by decide +kernel) (by decide +kernel)
set_option maxRecDepth 20000 in
theorem gX6_gives_X6_w : GoodIn wsX6_gives (va_wsS RX6 36 yX6_w wsX6_w) := goodIn_app (goodIn_of _ (by decide +kernel)) ggX6_gives_X6_w
theorem dX6_gives_0 : decode cX6_gives 0 = .ok (.iload_n 1, 1) := by decide +kernel
theorem dX6_gives_1 : decode cX6_gives 1 = .ok (.invokestatic 36, 3) := by decide +kernel
theorem dX6_gives_4 : decode cX6_gives 4 = .ok (.istore_n 2, 1) := by decide +kernel
theorem dX6_gives_5 : decode cX6_gives 5 = .ok (.aload_n 0, 1) := by decide +kernel
theorem dX6_gives_6 : decode cX6_gives 6 = .ok (.getfield 7, 3) := by decide +kernel
theorem dX6_gives_9 : decode cX6_gives 9 = .ok (.bipush 6, 2) := by decide +kernel
theorem dX6_gives_11 : decode cX6_gives 11 = .ok (.bipush 16, 2) := by decide +kernel
theorem dX6_gives_13 : decode cX6_gives 13 = .ok (.aload_n 0, 1) := by decide +kernel
theorem dX6_gives_14 : decode cX6_gives 14 = .ok (.getfield 7, 3) := by decide +kernel
theorem dX6_gives_17 : decode cX6_gives 17 = .ok (.iload_n 2, 1) := by decide +kernel
theorem dX6_gives_18 : decode cX6_gives 18 = .ok (.iconst 2, 1) := by decide +kernel
theorem dX6_gives_19 : decode cX6_gives 19 = .ok (.iadd, 1) := by decide +kernel
theorem dX6_gives_20 : decode cX6_gives 20 = .ok (.iaload, 1) := by decide +kernel
theorem dX6_gives_21 : decode cX6_gives 21 = .ok (.imul, 1) := by decide +kernel
theorem dX6_gives_22 : decode cX6_gives 22 = .ok (.iadd, 1) := by decide +kernel
theorem dX6_gives_23 : decode cX6_gives 23 = .ok (.aload_n 0, 1) := by decide +kernel
theorem dX6_gives_24 : decode cX6_gives 24 = .ok (.getfield 7, 3) := by decide +kernel
theorem dX6_gives_27 : decode cX6_gives 27 = .ok (.iload_n 2, 1) := by decide +kernel
theorem dX6_gives_28 : decode cX6_gives 28 = .ok (.iconst 0, 1) := by decide +kernel
theorem dX6_gives_29 : decode cX6_gives 29 = .ok (.iadd, 1) := by decide +kernel
theorem dX6_gives_30 : decode cX6_gives 30 = .ok (.iaload, 1) := by decide +kernel
theorem dX6_gives_31 : decode cX6_gives 31 = .ok (.sipush 4096, 3) := by decide +kernel
theorem dX6_gives_34 : decode cX6_gives 34 = .ok (.idiv, 1) := by decide +kernel
theorem dX6_gives_35 : decode cX6_gives 35 = .ok (.iadd, 1) := by decide +kernel
theorem dX6_gives_36 : decode cX6_gives 36 = .ok (.iaload, 1) := by decide +kernel
theorem dX6_gives_37 : decode cX6_gives 37 = .ok (.aload_n 0, 1) := by decide +kernel
theorem dX6_gives_38 : decode cX6_gives 38 = .ok (.getfield 7, 3) := by decide +kernel
theorem dX6_gives_41 : decode cX6_gives 41 = .ok (.iload_n 2, 1) := by decide +kernel
theorem dX6_gives_42 : decode cX6_gives 42 = .ok (.iconst 3, 1) := by decide +kernel
theorem dX6_gives_43 : decode cX6_gives 43 = .ok (.iadd, 1) := by decide +kernel
theorem dX6_gives_44 : decode cX6_gives 44 = .ok (.iaload, 1) := by decide +kernel
theorem dX6_gives_45 : decode cX6_gives 45 = .ok (.imul, 1) := by decide +kernel
theorem dX6_gives_46 : decode cX6_gives 46 = .ok (.ireturn, 1) := by decide +kernel
set_option maxRecDepth 20000 in
theorem ggX6_mixture_X6_w : GoodIn wsX6_mixture wsX6_w := goodIn_r _ [5] (by decide +kernel) (by decide +kernel)
set_option maxRecDepth 20000 in
theorem gX6_mixture_X6_w : GoodIn wsX6_mixture (va_wsS RX6 36 yX6_w wsX6_w) := goodIn_app (goodIn_of _ (by decide +kernel)) ggX6_mixture_X6_w
set_option maxRecDepth 20000 in
theorem ggX6_mixture_X6_gives : GoodIn wsX6_mixture wsX6_gives := goodIn_r _ [9, 1, 2, 3, 4, 5, 10, 11, 12, 13, 14, 15, 16, 17, 18, 19, 20, 21] (by decide +kernel) (by decide +kernel)
set_option maxRecDepth 20000 in
theorem gX6_mixture_X6_gives : GoodIn wsX6_mixture (wsV RX6 48 RX6 yX6_gives wsX6_gives) := goodIn_app (goodIn_of _ (by decide +kernel)) ggX6_mixture_X6_gives
theorem dX6_mixture_0 : decode cX6_mixture 0 = .ok (.iconst 0, 1) := by decide +kernel
theorem dX6_mixture_1 : decode cX6_mixture 1 = .ok (.istore_n 1, 1) := by decide +kernel
theorem dX6_mixture_2 : decode cX6_mixture 2 = .ok (.iconst 0, 1) := by decide +kernel
theorem dX6_mixture_3 : decode cX6_mixture 3 = .ok (.istore_n 2, 1) := by decide +kernel
theorem dX6_mixture_4 : decode cX6_mixture 4 = .ok (.iload_n 2, 1) := by decide +kernel
theorem dX6_mixture_5 : decode cX6_mixture 5 = .ok (.iconst 4, 1) := by decide +kernel
theorem dX6_mixture_6 : decode cX6_mixture 6 = .ok (.if_icmp .ge 36, 3) := by decide +kernel
theorem dX6_mixture_9 : decode cX6_mixture 9 = .ok (.iload_n 1, 1) := by decide +kernel
theorem dX6_mixture_10 : decode cX6_mixture 10 = .ok (.aload_n 0, 1) := by decide +kernel
theorem dX6_mixture_11 : decode cX6_mixture 11 = .ok (.getfield 7, 3) := by decide +kernel
theorem dX6_mixture_14 : decode cX6_mixture 14 = .ok (.iload_n 2, 1) := by decide +kernel
theorem dX6_mixture_15 : decode cX6_mixture 15 = .ok (.invokestatic 36, 3) := by decide +kernel
theorem dX6_mixture_18 : decode cX6_mixture 18 = .ok (.iconst 4, 1) := by decide +kernel
theorem dX6_mixture_19 : decode cX6_mixture 19 = .ok (.iadd, 1) := by decide +kernel
theorem dX6_mixture_20 : decode cX6_mixture 20 = .ok (.iaload, 1) := by decide +kernel
theorem dX6_mixture_21 : decode cX6_mixture 21 = .ok (.iconst 1, 1) := by decide +kernel
theorem dX6_mixture_22 : decode cX6_mixture 22 = .ok (.if_icmp .ne 11, 3) := by decide +kernel
theorem dX6_mixture_25 : decode cX6_mixture 25 = .ok (.aload_n 0, 1) := by decide +kernel
theorem dX6_mixture_26 : decode cX6_mixture 26 = .ok (.iload_n 2, 1) := by decide +kernel
theorem dX6_mixture_27 : decode cX6_mixture 27 = .ok (.invokevirtual 48, 3) := by decide +kernel
theorem dX6_mixture_30 : decode cX6_mixture 30 = .ok (.goto 4, 3) := by decide +kernel
theorem dX6_mixture_33 : decode cX6_mixture 33 = .ok (.iconst 0, 1) := by decide +kernel
theorem dX6_mixture_34 : decode cX6_mixture 34 = .ok (.iadd, 1) := by decide +kernel
theorem dX6_mixture_35 : decode cX6_mixture 35 = .ok (.istore_n 1, 1) := by decide +kernel
theorem dX6_mixture_36 : decode cX6_mixture 36 = .ok (.iinc 2 1, 3) := by decide +kernel
theorem dX6_mixture_39 : decode cX6_mixture 39 = .ok (.goto (-35), 3) := by decide +kernel
theorem dX6_mixture_42 : decode cX6_mixture 42 = .ok (.iload_n 1, 1) := by decide +kernel
theorem dX6_mixture_43 : decode cX6_mixture 43 = .ok (.ireturn, 1) := by decide +kernel
set_option maxRecDepth 20000 in
theorem ggX6_goesOn_X6_w : GoodIn wsX6_goesOn wsX6_w := goodIn_r _ [6] (by decide +kernel) (by decide +kernel)
set_option maxRecDepth 20000 in
theorem gX6_goesOn_X6_w : GoodIn wsX6_goesOn (va_wsS RX6 36 yX6_w wsX6_w) := goodIn_app (goodIn_of _ (by decide +kernel)) ggX6_goesOn_X6_w
theorem dX6_goesOn_0 : decode cX6_goesOn 0 = .ok (.iload_n 1, 1) := by decide +kernel
theorem dX6_goesOn_1 : decode cX6_goesOn 1 = .ok (.invokestatic 36, 3) := by decide +kernel
theorem dX6_goesOn_4 : decode cX6_goesOn 4 = .ok (.istore_n 2, 1) := by decide +kernel
theorem dX6_goesOn_5 : decode cX6_goesOn 5 = .ok (.aload_n 0, 1) := by decide +kernel
theorem dX6_goesOn_6 : decode cX6_goesOn 6 = .ok (.getfield 7, 3) := by decide +kernel
theorem dX6_goesOn_9 : decode cX6_goesOn 9 = .ok (.iload_n 2, 1) := by decide +kernel
theorem dX6_goesOn_10 : decode cX6_goesOn 10 = .ok (.iconst 0, 1) := by decide +kernel
theorem dX6_goesOn_11 : decode cX6_goesOn 11 = .ok (.iadd, 1) := by decide +kernel
theorem dX6_goesOn_12 : decode cX6_goesOn 12 = .ok (.aload_n 0, 1) := by decide +kernel
theorem dX6_goesOn_13 : decode cX6_goesOn 13 = .ok (.getfield 7, 3) := by decide +kernel
theorem dX6_goesOn_16 : decode cX6_goesOn 16 = .ok (.iload_n 2, 1) := by decide +kernel
theorem dX6_goesOn_17 : decode cX6_goesOn 17 = .ok (.iconst 0, 1) := by decide +kernel
theorem dX6_goesOn_18 : decode cX6_goesOn 18 = .ok (.iadd, 1) := by decide +kernel
theorem dX6_goesOn_19 : decode cX6_goesOn 19 = .ok (.iaload, 1) := by decide +kernel
theorem dX6_goesOn_20 : decode cX6_goesOn 20 = .ok (.aload_n 0, 1) := by decide +kernel
theorem dX6_goesOn_21 : decode cX6_goesOn 21 = .ok (.getfield 7, 3) := by decide +kernel
theorem dX6_goesOn_24 : decode cX6_goesOn 24 = .ok (.iload_n 2, 1) := by decide +kernel
theorem dX6_goesOn_25 : decode cX6_goesOn 25 = .ok (.iconst 1, 1) := by decide +kernel
theorem dX6_goesOn_26 : decode cX6_goesOn 26 = .ok (.iadd, 1) := by decide +kernel
theorem dX6_goesOn_27 : decode cX6_goesOn 27 = .ok (.iaload, 1) := by decide +kernel
theorem dX6_goesOn_28 : decode cX6_goesOn 28 = .ok (.iadd, 1) := by decide +kernel
theorem dX6_goesOn_29 : decode cX6_goesOn 29 = .ok (.ldc 51, 2) := by decide +kernel
theorem dX6_goesOn_31 : decode cX6_goesOn 31 = .ok (.irem, 1) := by decide +kernel
theorem dX6_goesOn_32 : decode cX6_goesOn 32 = .ok (.iastore, 1) := by decide +kernel
theorem dX6_goesOn_33 : decode cX6_goesOn 33 = .ok (.aload_n 0, 1) := by decide +kernel
theorem dX6_goesOn_34 : decode cX6_goesOn 34 = .ok (.getfield 7, 3) := by decide +kernel
theorem dX6_goesOn_37 : decode cX6_goesOn 37 = .ok (.iload_n 2, 1) := by decide +kernel
theorem dX6_goesOn_38 : decode cX6_goesOn 38 = .ok (.iconst 5, 1) := by decide +kernel
theorem dX6_goesOn_39 : decode cX6_goesOn 39 = .ok (.iadd, 1) := by decide +kernel
theorem dX6_goesOn_40 : decode cX6_goesOn 40 = .ok (.iaload, 1) := by decide +kernel
theorem dX6_goesOn_41 : decode cX6_goesOn 41 = .ok (.ifCond .ne 4, 3) := by decide +kernel
theorem dX6_goesOn_44 : decode cX6_goesOn 44 = .ok (.return_, 1) := by decide +kernel
theorem dX6_goesOn_45 : decode cX6_goesOn 45 = .ok (.aload_n 0, 1) := by decide +kernel
theorem dX6_goesOn_46 : decode cX6_goesOn 46 = .ok (.getfield 7, 3) := by decide +kernel
theorem dX6_goesOn_49 : decode cX6_goesOn 49 = .ok (.iload_n 2, 1) := by decide +kernel
theorem dX6_goesOn_50 : decode cX6_goesOn 50 = .ok (.bipush 6, 2) := by decide +kernel
theorem dX6_goesOn_52 : decode cX6_goesOn 52 = .ok (.iadd, 1) := by decide +kernel
theorem dX6_goesOn_53 : decode cX6_goesOn 53 = .ok (.dup2, 1) := by decide +kernel
theorem dX6_goesOn_54 : decode cX6_goesOn 54 = .ok (.iaload, 1) := by decide +kernel
theorem dX6_goesOn_55 : decode cX6_goesOn 55 = .ok (.iconst 1, 1) := by decide +kernel
theorem dX6_goesOn_56 : decode cX6_goesOn 56 = .ok (.iadd, 1) := by decide +kernel
theorem dX6_goesOn_57 : decode cX6_goesOn 57 = .ok (.iastore, 1) := by decide +kernel
theorem dX6_goesOn_58 : decode cX6_goesOn 58 = .ok (.aload_n 0, 1) := by decide +kernel
theorem dX6_goesOn_59 : decode cX6_goesOn 59 = .ok (.getfield 7, 3) := by decide +kernel
theorem dX6_goesOn_62 : decode cX6_goesOn 62 = .ok (.iload_n 2, 1) := by decide +kernel
theorem dX6_goesOn_63 : decode cX6_goesOn 63 = .ok (.iconst 1, 1) := by decide +kernel
theorem dX6_goesOn_64 : decode cX6_goesOn 64 = .ok (.iadd, 1) := by decide +kernel
theorem dX6_goesOn_65 : decode cX6_goesOn 65 = .ok (.aload_n 0, 1) := by decide +kernel
theorem dX6_goesOn_66 : decode cX6_goesOn 66 = .ok (.getfield 7, 3) := by decide +kernel
theorem dX6_goesOn_69 : decode cX6_goesOn 69 = .ok (.iload_n 2, 1) := by decide +kernel
theorem dX6_goesOn_70 : decode cX6_goesOn 70 = .ok (.bipush 7, 2) := by decide +kernel
theorem dX6_goesOn_72 : decode cX6_goesOn 72 = .ok (.iadd, 1) := by decide +kernel
theorem dX6_goesOn_73 : decode cX6_goesOn 73 = .ok (.iaload, 1) := by decide +kernel
theorem dX6_goesOn_74 : decode cX6_goesOn 74 = .ok (.aload_n 0, 1) := by decide +kernel
theorem dX6_goesOn_75 : decode cX6_goesOn 75 = .ok (.getfield 7, 3) := by decide +kernel
theorem dX6_goesOn_78 : decode cX6_goesOn 78 = .ok (.iload_n 2, 1) := by decide +kernel
theorem dX6_goesOn_79 : decode cX6_goesOn 79 = .ok (.bipush 8, 2) := by decide +kernel
theorem dX6_goesOn_81 : decode cX6_goesOn 81 = .ok (.iadd, 1) := by decide +kernel
theorem dX6_goesOn_82 : decode cX6_goesOn 82 = .ok (.iaload, 1) := by decide +kernel
theorem dX6_goesOn_83 : decode cX6_goesOn 83 = .ok (.aload_n 0, 1) := by decide +kernel
theorem dX6_goesOn_84 : decode cX6_goesOn 84 = .ok (.getfield 7, 3) := by decide +kernel
theorem dX6_goesOn_87 : decode cX6_goesOn 87 = .ok (.iload_n 2, 1) := by decide +kernel
theorem dX6_goesOn_88 : decode cX6_goesOn 88 = .ok (.bipush 7, 2) := by decide +kernel
theorem dX6_goesOn_90 : decode cX6_goesOn 90 = .ok (.iadd, 1) := by decide +kernel
theorem dX6_goesOn_91 : decode cX6_goesOn 91 = .ok (.iaload, 1) := by decide +kernel
theorem dX6_goesOn_92 : decode cX6_goesOn 92 = .ok (.isub, 1) := by decide +kernel
theorem dX6_goesOn_93 : decode cX6_goesOn 93 = .ok (.aload_n 0, 1) := by decide +kernel
theorem dX6_goesOn_94 : decode cX6_goesOn 94 = .ok (.getfield 7, 3) := by decide +kernel
theorem dX6_goesOn_97 : decode cX6_goesOn 97 = .ok (.iload_n 2, 1) := by decide +kernel
theorem dX6_goesOn_98 : decode cX6_goesOn 98 = .ok (.bipush 6, 2) := by decide +kernel
theorem dX6_goesOn_100 : decode cX6_goesOn 100 = .ok (.iadd, 1) := by decide +kernel
theorem dX6_goesOn_101 : decode cX6_goesOn 101 = .ok (.iaload, 1) := by decide +kernel
theorem dX6_goesOn_102 : decode cX6_goesOn 102 = .ok (.imul, 1) := by decide +kernel
theorem dX6_goesOn_103 : decode cX6_goesOn 103 = .ok (.aload_n 0, 1) := by decide +kernel
theorem dX6_goesOn_104 : decode cX6_goesOn 104 = .ok (.getfield 7, 3) := by decide +kernel
theorem dX6_goesOn_107 : decode cX6_goesOn 107 = .ok (.iload_n 2, 1) := by decide +kernel
theorem dX6_goesOn_108 : decode cX6_goesOn 108 = .ok (.bipush 8, 2) := by decide +kernel
theorem dX6_goesOn_110 : decode cX6_goesOn 110 = .ok (.iadd, 1) := by decide +kernel
theorem dX6_goesOn_111 : decode cX6_goesOn 111 = .ok (.iconst 1, 1) := by decide +kernel
theorem dX6_goesOn_112 : decode cX6_goesOn 112 = .ok (.iadd, 1) := by decide +kernel
theorem dX6_goesOn_113 : decode cX6_goesOn 113 = .ok (.iaload, 1) := by decide +kernel
theorem dX6_goesOn_114 : decode cX6_goesOn 114 = .ok (.idiv, 1) := by decide +kernel
theorem dX6_goesOn_115 : decode cX6_goesOn 115 = .ok (.iadd, 1) := by decide +kernel
theorem dX6_goesOn_116 : decode cX6_goesOn 116 = .ok (.iastore, 1) := by decide +kernel
theorem dX6_goesOn_117 : decode cX6_goesOn 117 = .ok (.aload_n 0, 1) := by decide +kernel
theorem dX6_goesOn_118 : decode cX6_goesOn 118 = .ok (.getfield 7, 3) := by decide +kernel
theorem dX6_goesOn_121 : decode cX6_goesOn 121 = .ok (.iload_n 2, 1) := by decide +kernel
theorem dX6_goesOn_122 : decode cX6_goesOn 122 = .ok (.bipush 6, 2) := by decide +kernel
theorem dX6_goesOn_124 : decode cX6_goesOn 124 = .ok (.iadd, 1) := by decide +kernel
theorem dX6_goesOn_125 : decode cX6_goesOn 125 = .ok (.iaload, 1) := by decide +kernel
theorem dX6_goesOn_126 : decode cX6_goesOn 126 = .ok (.aload_n 0, 1) := by decide +kernel
theorem dX6_goesOn_127 : decode cX6_goesOn 127 = .ok (.getfield 7, 3) := by decide +kernel
theorem dX6_goesOn_130 : decode cX6_goesOn 130 = .ok (.iload_n 2, 1) := by decide +kernel
theorem dX6_goesOn_131 : decode cX6_goesOn 131 = .ok (.bipush 8, 2) := by decide +kernel
theorem dX6_goesOn_133 : decode cX6_goesOn 133 = .ok (.iadd, 1) := by decide +kernel
theorem dX6_goesOn_134 : decode cX6_goesOn 134 = .ok (.iconst 1, 1) := by decide +kernel
theorem dX6_goesOn_135 : decode cX6_goesOn 135 = .ok (.iadd, 1) := by decide +kernel
theorem dX6_goesOn_136 : decode cX6_goesOn 136 = .ok (.iaload, 1) := by decide +kernel
theorem dX6_goesOn_137 : decode cX6_goesOn 137 = .ok (.if_icmp .ne 75, 3) := by decide +kernel
theorem dX6_goesOn_140 : decode cX6_goesOn 140 = .ok (.bipush 8, 2) := by decide +kernel
theorem dX6_goesOn_142 : decode cX6_goesOn 142 = .ok (.istore_n 3, 1) := by decide +kernel
theorem dX6_goesOn_143 : decode cX6_goesOn 143 = .ok (.iload_n 3, 1) := by decide +kernel
theorem dX6_goesOn_144 : decode cX6_goesOn 144 = .ok (.bipush 14, 2) := by decide +kernel
theorem dX6_goesOn_146 : decode cX6_goesOn 146 = .ok (.if_icmp .ge 27, 3) := by decide +kernel
theorem dX6_goesOn_149 : decode cX6_goesOn 149 = .ok (.aload_n 0, 1) := by decide +kernel
theorem dX6_goesOn_150 : decode cX6_goesOn 150 = .ok (.getfield 7, 3) := by decide +kernel
theorem dX6_goesOn_153 : decode cX6_goesOn 153 = .ok (.iload_n 2, 1) := by decide +kernel
theorem dX6_goesOn_154 : decode cX6_goesOn 154 = .ok (.iload_n 3, 1) := by decide +kernel
theorem dX6_goesOn_155 : decode cX6_goesOn 155 = .ok (.iadd, 1) := by decide +kernel
theorem dX6_goesOn_156 : decode cX6_goesOn 156 = .ok (.aload_n 0, 1) := by decide +kernel
theorem dX6_goesOn_157 : decode cX6_goesOn 157 = .ok (.getfield 7, 3) := by decide +kernel
theorem dX6_goesOn_160 : decode cX6_goesOn 160 = .ok (.iload_n 2, 1) := by decide +kernel
theorem dX6_goesOn_161 : decode cX6_goesOn 161 = .ok (.iload_n 3, 1) := by decide +kernel
theorem dX6_goesOn_162 : decode cX6_goesOn 162 = .ok (.iadd, 1) := by decide +kernel
theorem dX6_goesOn_163 : decode cX6_goesOn 163 = .ok (.iconst 2, 1) := by decide +kernel
theorem dX6_goesOn_164 : decode cX6_goesOn 164 = .ok (.iadd, 1) := by decide +kernel
theorem dX6_goesOn_165 : decode cX6_goesOn 165 = .ok (.iaload, 1) := by decide +kernel
theorem dX6_goesOn_166 : decode cX6_goesOn 166 = .ok (.iastore, 1) := by decide +kernel
theorem dX6_goesOn_167 : decode cX6_goesOn 167 = .ok (.iinc 3 1, 3) := by decide +kernel
theorem dX6_goesOn_170 : decode cX6_goesOn 170 = .ok (.goto (-27), 3) := by decide +kernel
theorem dX6_goesOn_173 : decode cX6_goesOn 173 = .ok (.aload_n 0, 1) := by decide +kernel
theorem dX6_goesOn_174 : decode cX6_goesOn 174 = .ok (.getfield 7, 3) := by decide +kernel
theorem dX6_goesOn_177 : decode cX6_goesOn 177 = .ok (.iload_n 2, 1) := by decide +kernel
theorem dX6_goesOn_178 : decode cX6_goesOn 178 = .ok (.iconst 5, 1) := by decide +kernel
theorem dX6_goesOn_179 : decode cX6_goesOn 179 = .ok (.iadd, 1) := by decide +kernel
theorem dX6_goesOn_180 : decode cX6_goesOn 180 = .ok (.dup2, 1) := by decide +kernel
theorem dX6_goesOn_181 : decode cX6_goesOn 181 = .ok (.iaload, 1) := by decide +kernel
theorem dX6_goesOn_182 : decode cX6_goesOn 182 = .ok (.iconst 1, 1) := by decide +kernel
theorem dX6_goesOn_183 : decode cX6_goesOn 183 = .ok (.isub, 1) := by decide +kernel
theorem dX6_goesOn_184 : decode cX6_goesOn 184 = .ok (.iastore, 1) := by decide +kernel
theorem dX6_goesOn_185 : decode cX6_goesOn 185 = .ok (.aload_n 0, 1) := by decide +kernel
theorem dX6_goesOn_186 : decode cX6_goesOn 186 = .ok (.getfield 7, 3) := by decide +kernel
theorem dX6_goesOn_189 : decode cX6_goesOn 189 = .ok (.iload_n 2, 1) := by decide +kernel
theorem dX6_goesOn_190 : decode cX6_goesOn 190 = .ok (.bipush 6, 2) := by decide +kernel
theorem dX6_goesOn_192 : decode cX6_goesOn 192 = .ok (.iadd, 1) := by decide +kernel
theorem dX6_goesOn_193 : decode cX6_goesOn 193 = .ok (.iconst 0, 1) := by decide +kernel
theorem dX6_goesOn_194 : decode cX6_goesOn 194 = .ok (.iastore, 1) := by decide +kernel
theorem dX6_goesOn_195 : decode cX6_goesOn 195 = .ok (.aload_n 0, 1) := by decide +kernel
theorem dX6_goesOn_196 : decode cX6_goesOn 196 = .ok (.getfield 7, 3) := by decide +kernel
theorem dX6_goesOn_199 : decode cX6_goesOn 199 = .ok (.iload_n 2, 1) := by decide +kernel
theorem dX6_goesOn_200 : decode cX6_goesOn 200 = .ok (.bipush 7, 2) := by decide +kernel
theorem dX6_goesOn_202 : decode cX6_goesOn 202 = .ok (.iadd, 1) := by decide +kernel
theorem dX6_goesOn_203 : decode cX6_goesOn 203 = .ok (.aload_n 0, 1) := by decide +kernel
theorem dX6_goesOn_204 : decode cX6_goesOn 204 = .ok (.getfield 7, 3) := by decide +kernel
theorem dX6_goesOn_207 : decode cX6_goesOn 207 = .ok (.iload_n 2, 1) := by decide +kernel
theorem dX6_goesOn_208 : decode cX6_goesOn 208 = .ok (.iconst 1, 1) := by decide +kernel
theorem dX6_goesOn_209 : decode cX6_goesOn 209 = .ok (.iadd, 1) := by decide +kernel
theorem dX6_goesOn_210 : decode cX6_goesOn 210 = .ok (.iaload, 1) := by decide +kernel
theorem dX6_goesOn_211 : decode cX6_goesOn 211 = .ok (.iastore, 1) := by decide +kernel
theorem dX6_goesOn_212 : decode cX6_goesOn 212 = .ok (.return_, 1) := by decide +kernel
set_option maxRecDepth 20000 in
theorem ggX6_makes_X6_mixture : GoodIn wsX6_makes wsX6_mixture := goodIn_r _ [7, 1, 8, 9, 6, 10, 11, 12, 13, 14, 20, 21, 22, 23, 24, 25, 26, 27, 28, 29, 30, 31] (by decide +kernel) (by decide +kernel)
set_option maxRecDepth 20000 in
theorem gX6_makes_X6_mixture : GoodIn wsX6_makes (wsV RX6 52 RX6 yX6_mixture wsX6_mixture) := goodIn_app (goodIn_of _ (by decide +kernel)) ggX6_makes_X6_mixture
set_option maxRecDepth 20000 in
theorem ggX6_makes_X6_w : GoodIn wsX6_makes wsX6_w := goodIn_r _ [10] (by decide +kernel) (by decide +kernel)
set_option maxRecDepth 20000 in
theorem gX6_makes_X6_w : GoodIn wsX6_makes (va_wsS RX6 36 yX6_w wsX6_w) := goodIn_app (goodIn_of _ (by decide +kernel)) ggX6_makes_X6_w
set_option maxRecDepth 20000 in
theorem ggX6_makes_X6_goesOn : GoodIn wsX6_makes wsX6_goesOn := goodIn_r _ [18, 1, 19, 8, 9, 6, 10, 20, 21, 22, 23, 24, 25, 26, 27, 28, 29, 30, 31] (by decide +kernel) (by decide +kernel)
set_option maxRecDepth 20000 in
theorem gX6_makes_X6_goesOn : GoodIn wsX6_makes (wsV RX6 57 RX6 yX6_goesOn wsX6_goesOn) := goodIn_app (goodIn_of _ (by decide +kernel)) ggX6_makes_X6_goesOn
theorem dX6_makes_0 : decode cX6_makes 0 = .ok (.aload_n 0, 1) := by decide +kernel
theorem dX6_makes_1 : decode cX6_makes 1 = .ok (.invokevirtual 52, 3) := by decide +kernel
theorem dX6_makes_4 : decode cX6_makes 4 = .ok (.istore_n 1, 1) := by decide +kernel
theorem dX6_makes_5 : decode cX6_makes 5 = .ok (.iload_n 1, 1) := by decide +kernel
theorem dX6_makes_6 : decode cX6_makes 6 = .ok (.aload_n 0, 1) := by decide +kernel
theorem dX6_makes_7 : decode cX6_makes 7 = .ok (.getfield 7, 3) := by decide +kernel
theorem dX6_makes_10 : decode cX6_makes 10 = .ok (.iconst 0, 1) := by decide +kernel
theorem dX6_makes_11 : decode cX6_makes 11 = .ok (.iaload, 1) := by decide +kernel
theorem dX6_makes_12 : decode cX6_makes 12 = .ok (.if_icmp .le 12, 3) := by decide +kernel
theorem dX6_makes_15 : decode cX6_makes 15 = .ok (.aload_n 0, 1) := by decide +kernel
theorem dX6_makes_16 : decode cX6_makes 16 = .ok (.getfield 7, 3) := by decide +kernel
theorem dX6_makes_19 : decode cX6_makes 19 = .ok (.iconst 0, 1) := by decide +kernel
theorem dX6_makes_20 : decode cX6_makes 20 = .ok (.iaload, 1) := by decide +kernel
theorem dX6_makes_21 : decode cX6_makes 21 = .ok (.goto 4, 3) := by decide +kernel
theorem dX6_makes_24 : decode cX6_makes 24 = .ok (.iload_n 1, 1) := by decide +kernel
theorem dX6_makes_25 : decode cX6_makes 25 = .ok (.istore_n 2, 1) := by decide +kernel
theorem dX6_makes_26 : decode cX6_makes 26 = .ok (.aload_n 0, 1) := by decide +kernel
theorem dX6_makes_27 : decode cX6_makes 27 = .ok (.getfield 7, 3) := by decide +kernel
theorem dX6_makes_30 : decode cX6_makes 30 = .ok (.iconst 2, 1) := by decide +kernel
theorem dX6_makes_31 : decode cX6_makes 31 = .ok (.dup2, 1) := by decide +kernel
theorem dX6_makes_32 : decode cX6_makes 32 = .ok (.iaload, 1) := by decide +kernel
theorem dX6_makes_33 : decode cX6_makes 33 = .ok (.iload_n 1, 1) := by decide +kernel
theorem dX6_makes_34 : decode cX6_makes 34 = .ok (.aload_n 0, 1) := by decide +kernel
theorem dX6_makes_35 : decode cX6_makes 35 = .ok (.getfield 7, 3) := by decide +kernel
theorem dX6_makes_38 : decode cX6_makes 38 = .ok (.iconst 0, 1) := by decide +kernel
theorem dX6_makes_39 : decode cX6_makes 39 = .ok (.iaload, 1) := by decide +kernel
theorem dX6_makes_40 : decode cX6_makes 40 = .ok (.if_icmp .le 7, 3) := by decide +kernel
theorem dX6_makes_43 : decode cX6_makes 43 = .ok (.iconst 1, 1) := by decide +kernel
theorem dX6_makes_44 : decode cX6_makes 44 = .ok (.goto 4, 3) := by decide +kernel
theorem dX6_makes_47 : decode cX6_makes 47 = .ok (.iconst 0, 1) := by decide +kernel
theorem dX6_makes_48 : decode cX6_makes 48 = .ok (.iadd, 1) := by decide +kernel
theorem dX6_makes_49 : decode cX6_makes 49 = .ok (.iastore, 1) := by decide +kernel
theorem dX6_makes_50 : decode cX6_makes 50 = .ok (.aload_n 0, 1) := by decide +kernel
theorem dX6_makes_51 : decode cX6_makes 51 = .ok (.getfield 7, 3) := by decide +kernel
theorem dX6_makes_54 : decode cX6_makes 54 = .ok (.iconst 3, 1) := by decide +kernel
theorem dX6_makes_55 : decode cX6_makes 55 = .ok (.aload_n 0, 1) := by decide +kernel
theorem dX6_makes_56 : decode cX6_makes 56 = .ok (.getfield 7, 3) := by decide +kernel
theorem dX6_makes_59 : decode cX6_makes 59 = .ok (.iconst 3, 1) := by decide +kernel
theorem dX6_makes_60 : decode cX6_makes 60 = .ok (.iaload, 1) := by decide +kernel
theorem dX6_makes_61 : decode cX6_makes 61 = .ok (.iload_n 2, 1) := by decide +kernel
theorem dX6_makes_62 : decode cX6_makes 62 = .ok (.iadd, 1) := by decide +kernel
theorem dX6_makes_63 : decode cX6_makes 63 = .ok (.ldc 56, 2) := by decide +kernel
theorem dX6_makes_65 : decode cX6_makes 65 = .ok (.irem, 1) := by decide +kernel
theorem dX6_makes_66 : decode cX6_makes 66 = .ok (.iastore, 1) := by decide +kernel
theorem dX6_makes_67 : decode cX6_makes 67 = .ok (.aload_n 0, 1) := by decide +kernel
theorem dX6_makes_68 : decode cX6_makes 68 = .ok (.getfield 7, 3) := by decide +kernel
theorem dX6_makes_71 : decode cX6_makes 71 = .ok (.iconst 4, 1) := by decide +kernel
theorem dX6_makes_72 : decode cX6_makes 72 = .ok (.dup2, 1) := by decide +kernel
theorem dX6_makes_73 : decode cX6_makes 73 = .ok (.iaload, 1) := by decide +kernel
theorem dX6_makes_74 : decode cX6_makes 74 = .ok (.aload_n 0, 1) := by decide +kernel
theorem dX6_makes_75 : decode cX6_makes 75 = .ok (.getfield 7, 3) := by decide +kernel
theorem dX6_makes_78 : decode cX6_makes 78 = .ok (.iconst 5, 1) := by decide +kernel
theorem dX6_makes_79 : decode cX6_makes 79 = .ok (.iaload, 1) := by decide +kernel
theorem dX6_makes_80 : decode cX6_makes 80 = .ok (.ifCond .lt 17, 3) := by decide +kernel
theorem dX6_makes_83 : decode cX6_makes 83 = .ok (.iload_n 2, 1) := by decide +kernel
theorem dX6_makes_84 : decode cX6_makes 84 = .ok (.aload_n 0, 1) := by decide +kernel
theorem dX6_makes_85 : decode cX6_makes 85 = .ok (.getfield 7, 3) := by decide +kernel
theorem dX6_makes_88 : decode cX6_makes 88 = .ok (.iconst 5, 1) := by decide +kernel
theorem dX6_makes_89 : decode cX6_makes 89 = .ok (.iaload, 1) := by decide +kernel
theorem dX6_makes_90 : decode cX6_makes 90 = .ok (.if_icmp .le 7, 3) := by decide +kernel
theorem dX6_makes_93 : decode cX6_makes 93 = .ok (.iconst 1, 1) := by decide +kernel
theorem dX6_makes_94 : decode cX6_makes 94 = .ok (.goto 4, 3) := by decide +kernel
theorem dX6_makes_97 : decode cX6_makes 97 = .ok (.iconst 0, 1) := by decide +kernel
theorem dX6_makes_98 : decode cX6_makes 98 = .ok (.iadd, 1) := by decide +kernel
theorem dX6_makes_99 : decode cX6_makes 99 = .ok (.iastore, 1) := by decide +kernel
theorem dX6_makes_100 : decode cX6_makes 100 = .ok (.aload_n 0, 1) := by decide +kernel
theorem dX6_makes_101 : decode cX6_makes 101 = .ok (.getfield 7, 3) := by decide +kernel
theorem dX6_makes_104 : decode cX6_makes 104 = .ok (.iconst 5, 1) := by decide +kernel
theorem dX6_makes_105 : decode cX6_makes 105 = .ok (.iload_n 2, 1) := by decide +kernel
theorem dX6_makes_106 : decode cX6_makes 106 = .ok (.iastore, 1) := by decide +kernel
theorem dX6_makes_107 : decode cX6_makes 107 = .ok (.aload_n 0, 1) := by decide +kernel
theorem dX6_makes_108 : decode cX6_makes 108 = .ok (.getfield 7, 3) := by decide +kernel
theorem dX6_makes_111 : decode cX6_makes 111 = .ok (.sipush 134, 3) := by decide +kernel
theorem dX6_makes_114 : decode cX6_makes 114 = .ok (.aload_n 0, 1) := by decide +kernel
theorem dX6_makes_115 : decode cX6_makes 115 = .ok (.getfield 7, 3) := by decide +kernel
theorem dX6_makes_118 : decode cX6_makes 118 = .ok (.iconst 1, 1) := by decide +kernel
theorem dX6_makes_119 : decode cX6_makes 119 = .ok (.iaload, 1) := by decide +kernel
theorem dX6_makes_120 : decode cX6_makes 120 = .ok (.bipush 32, 2) := by decide +kernel
theorem dX6_makes_122 : decode cX6_makes 122 = .ok (.irem, 1) := by decide +kernel
theorem dX6_makes_123 : decode cX6_makes 123 = .ok (.iadd, 1) := by decide +kernel
theorem dX6_makes_124 : decode cX6_makes 124 = .ok (.iload_n 2, 1) := by decide +kernel
theorem dX6_makes_125 : decode cX6_makes 125 = .ok (.iastore, 1) := by decide +kernel
theorem dX6_makes_126 : decode cX6_makes 126 = .ok (.aload_n 0, 1) := by decide +kernel
theorem dX6_makes_127 : decode cX6_makes 127 = .ok (.getfield 7, 3) := by decide +kernel
theorem dX6_makes_130 : decode cX6_makes 130 = .ok (.iconst 1, 1) := by decide +kernel
theorem dX6_makes_131 : decode cX6_makes 131 = .ok (.dup2, 1) := by decide +kernel
theorem dX6_makes_132 : decode cX6_makes 132 = .ok (.iaload, 1) := by decide +kernel
theorem dX6_makes_133 : decode cX6_makes 133 = .ok (.iconst 1, 1) := by decide +kernel
theorem dX6_makes_134 : decode cX6_makes 134 = .ok (.iadd, 1) := by decide +kernel
theorem dX6_makes_135 : decode cX6_makes 135 = .ok (.iastore, 1) := by decide +kernel
theorem dX6_makes_136 : decode cX6_makes 136 = .ok (.iconst 0, 1) := by decide +kernel
theorem dX6_makes_137 : decode cX6_makes 137 = .ok (.istore_n 3, 1) := by decide +kernel
theorem dX6_makes_138 : decode cX6_makes 138 = .ok (.iload_n 3, 1) := by decide +kernel
theorem dX6_makes_139 : decode cX6_makes 139 = .ok (.iconst 4, 1) := by decide +kernel
theorem dX6_makes_140 : decode cX6_makes 140 = .ok (.if_icmp .ge 29, 3) := by decide +kernel
theorem dX6_makes_143 : decode cX6_makes 143 = .ok (.aload_n 0, 1) := by decide +kernel
theorem dX6_makes_144 : decode cX6_makes 144 = .ok (.getfield 7, 3) := by decide +kernel
theorem dX6_makes_147 : decode cX6_makes 147 = .ok (.iload_n 3, 1) := by decide +kernel
theorem dX6_makes_148 : decode cX6_makes 148 = .ok (.invokestatic 36, 3) := by decide +kernel
theorem dX6_makes_151 : decode cX6_makes 151 = .ok (.iconst 4, 1) := by decide +kernel
theorem dX6_makes_152 : decode cX6_makes 152 = .ok (.iadd, 1) := by decide +kernel
theorem dX6_makes_153 : decode cX6_makes 153 = .ok (.iaload, 1) := by decide +kernel
theorem dX6_makes_154 : decode cX6_makes 154 = .ok (.iconst 1, 1) := by decide +kernel
theorem dX6_makes_155 : decode cX6_makes 155 = .ok (.if_icmp .ne 8, 3) := by decide +kernel
theorem dX6_makes_158 : decode cX6_makes 158 = .ok (.aload_n 0, 1) := by decide +kernel
theorem dX6_makes_159 : decode cX6_makes 159 = .ok (.iload_n 3, 1) := by decide +kernel
theorem dX6_makes_160 : decode cX6_makes 160 = .ok (.invokevirtual 57, 3) := by decide +kernel
theorem dX6_makes_163 : decode cX6_makes 163 = .ok (.iinc 3 1, 3) := by decide +kernel
theorem dX6_makes_166 : decode cX6_makes 166 = .ok (.goto (-28), 3) := by decide +kernel
theorem dX6_makes_169 : decode cX6_makes 169 = .ok (.iload_n 2, 1) := by decide +kernel
theorem dX6_makes_170 : decode cX6_makes 170 = .ok (.ireturn, 1) := by decide +kernel
set_option maxRecDepth 20000 in
theorem ggX6_steps_X6_isOne : GoodIn wsX6_steps wsX6_isOne := goodIn_r _ [6, 7, 8, 5, 9] (by decide +kernel) (by decide +kernel)
set_option maxRecDepth 20000 in
theorem gX6_steps_X6_isOne : GoodIn wsX6_steps (va_wsS RX6 61 yX6_isOne wsX6_isOne) := goodIn_app (goodIn_of _ (by decide +kernel)) ggX6_steps_X6_isOne
set_option maxRecDepth 20000 in
theorem ggX6_steps_X6_in : GoodIn wsX6_steps wsX6_in := goodIn_r _ [9] (by decide +kernel) (by decide +kernel)
set_option maxRecDepth 20000 in
theorem gX6_steps_X6_in : GoodIn wsX6_steps (va_wsS RX6 40 yX6_in wsX6_in) := goodIn_app (goodIn_of _ (by decide +kernel)) ggX6_steps_X6_in
set_option maxRecDepth 20000 in
theorem ggX6_steps_X6_w : GoodIn wsX6_steps wsX6_w := goodIn_r _ [12] (by decide +kernel) (by decide +kernel)
set_option maxRecDepth 20000 in
theorem gX6_steps_X6_w : GoodIn wsX6_steps (va_wsS RX6 36 yX6_w wsX6_w) := goodIn_app (goodIn_of _ (by decide +kernel)) ggX6_steps_X6_w
theorem dX6_steps_0 : decode cX6_steps 0 = .ok (.iload_n 1, 1) := by decide +kernel
theorem dX6_steps_1 : decode cX6_steps 1 = .ok (.invokestatic 61, 3) := by decide +kernel
theorem dX6_steps_4 : decode cX6_steps 4 = .ok (.ifCond .ne 5, 3) := by decide +kernel
theorem dX6_steps_7 : decode cX6_steps 7 = .ok (.iconst (-1), 1) := by decide +kernel
theorem dX6_steps_8 : decode cX6_steps 8 = .ok (.ireturn, 1) := by decide +kernel
theorem dX6_steps_9 : decode cX6_steps 9 = .ok (.iload_n 2, 1) := by decide +kernel
theorem dX6_steps_10 : decode cX6_steps 10 = .ok (.iconst 0, 1) := by decide +kernel
theorem dX6_steps_11 : decode cX6_steps 11 = .ok (.ldc 65, 2) := by decide +kernel
theorem dX6_steps_13 : decode cX6_steps 13 = .ok (.invokestatic 40, 3) := by decide +kernel
theorem dX6_steps_16 : decode cX6_steps 16 = .ok (.ifCond .ne 6, 3) := by decide +kernel
theorem dX6_steps_19 : decode cX6_steps 19 = .ok (.bipush (-2), 2) := by decide +kernel
theorem dX6_steps_21 : decode cX6_steps 21 = .ok (.ireturn, 1) := by decide +kernel
theorem dX6_steps_22 : decode cX6_steps 22 = .ok (.iload_n 1, 1) := by decide +kernel
theorem dX6_steps_23 : decode cX6_steps 23 = .ok (.invokestatic 36, 3) := by decide +kernel
theorem dX6_steps_26 : decode cX6_steps 26 = .ok (.istore_n 3, 1) := by decide +kernel
theorem dX6_steps_27 : decode cX6_steps 27 = .ok (.aload_n 0, 1) := by decide +kernel
theorem dX6_steps_28 : decode cX6_steps 28 = .ok (.getfield 7, 3) := by decide +kernel
theorem dX6_steps_31 : decode cX6_steps 31 = .ok (.iload_n 3, 1) := by decide +kernel
theorem dX6_steps_32 : decode cX6_steps 32 = .ok (.iconst 1, 1) := by decide +kernel
theorem dX6_steps_33 : decode cX6_steps 33 = .ok (.iadd, 1) := by decide +kernel
theorem dX6_steps_34 : decode cX6_steps 34 = .ok (.iaload, 1) := by decide +kernel
theorem dX6_steps_35 : decode cX6_steps 35 = .ok (.istore 4, 2) := by decide +kernel
theorem dX6_steps_37 : decode cX6_steps 37 = .ok (.aload_n 0, 1) := by decide +kernel
theorem dX6_steps_38 : decode cX6_steps 38 = .ok (.getfield 7, 3) := by decide +kernel
theorem dX6_steps_41 : decode cX6_steps 41 = .ok (.iload_n 3, 1) := by decide +kernel
theorem dX6_steps_42 : decode cX6_steps 42 = .ok (.iconst 1, 1) := by decide +kernel
theorem dX6_steps_43 : decode cX6_steps 43 = .ok (.iadd, 1) := by decide +kernel
theorem dX6_steps_44 : decode cX6_steps 44 = .ok (.iload_n 2, 1) := by decide +kernel
theorem dX6_steps_45 : decode cX6_steps 45 = .ok (.iastore, 1) := by decide +kernel
theorem dX6_steps_46 : decode cX6_steps 46 = .ok (.aload_n 0, 1) := by decide +kernel
theorem dX6_steps_47 : decode cX6_steps 47 = .ok (.getfield 7, 3) := by decide +kernel
theorem dX6_steps_50 : decode cX6_steps 50 = .ok (.iload_n 3, 1) := by decide +kernel
theorem dX6_steps_51 : decode cX6_steps 51 = .ok (.iconst 5, 1) := by decide +kernel
theorem dX6_steps_52 : decode cX6_steps 52 = .ok (.iadd, 1) := by decide +kernel
theorem dX6_steps_53 : decode cX6_steps 53 = .ok (.iconst 0, 1) := by decide +kernel
theorem dX6_steps_54 : decode cX6_steps 54 = .ok (.iastore, 1) := by decide +kernel
theorem dX6_steps_55 : decode cX6_steps 55 = .ok (.aload_n 0, 1) := by decide +kernel
theorem dX6_steps_56 : decode cX6_steps 56 = .ok (.getfield 7, 3) := by decide +kernel
theorem dX6_steps_59 : decode cX6_steps 59 = .ok (.iload_n 3, 1) := by decide +kernel
theorem dX6_steps_60 : decode cX6_steps 60 = .ok (.bipush 6, 2) := by decide +kernel
theorem dX6_steps_62 : decode cX6_steps 62 = .ok (.iadd, 1) := by decide +kernel
theorem dX6_steps_63 : decode cX6_steps 63 = .ok (.iconst 0, 1) := by decide +kernel
theorem dX6_steps_64 : decode cX6_steps 64 = .ok (.iastore, 1) := by decide +kernel
theorem dX6_steps_65 : decode cX6_steps 65 = .ok (.iload 4, 2) := by decide +kernel
theorem dX6_steps_67 : decode cX6_steps 67 = .ok (.ireturn, 1) := by decide +kernel
set_option maxRecDepth 20000 in
theorem ggX6_tables_X6_isOne : GoodIn wsX6_tables wsX6_isOne := goodIn_r _ [5, 6, 7, 4, 8] (by decide +kernel) (by decide +kernel)
set_option maxRecDepth 20000 in
theorem gX6_tables_X6_isOne : GoodIn wsX6_tables (va_wsS RX6 61 yX6_isOne wsX6_isOne) := goodIn_app (goodIn_of _ (by decide +kernel)) ggX6_tables_X6_isOne
set_option maxRecDepth 20000 in
theorem ggX6_tables_X6_w : GoodIn wsX6_tables wsX6_w := goodIn_r _ [11] (by decide +kernel) (by decide +kernel)
set_option maxRecDepth 20000 in
theorem gX6_tables_X6_w : GoodIn wsX6_tables (va_wsS RX6 36 yX6_w wsX6_w) := goodIn_app (goodIn_of _ (by decide +kernel)) ggX6_tables_X6_w
theorem dX6_tables_0 : decode cX6_tables 0 = .ok (.iload_n 1, 1) := by decide +kernel
theorem dX6_tables_1 : decode cX6_tables 1 = .ok (.invokestatic 61, 3) := by decide +kernel
theorem dX6_tables_4 : decode cX6_tables 4 = .ok (.ifCond .eq 10, 3) := by decide +kernel
theorem dX6_tables_7 : decode cX6_tables 7 = .ok (.iload_n 2, 1) := by decide +kernel
theorem dX6_tables_8 : decode cX6_tables 8 = .ok (.invokestatic 61, 3) := by decide +kernel
theorem dX6_tables_11 : decode cX6_tables 11 = .ok (.ifCond .ne 5, 3) := by decide +kernel
theorem dX6_tables_14 : decode cX6_tables 14 = .ok (.iconst (-1), 1) := by decide +kernel
theorem dX6_tables_15 : decode cX6_tables 15 = .ok (.ireturn, 1) := by decide +kernel
theorem dX6_tables_16 : decode cX6_tables 16 = .ok (.aload_n 0, 1) := by decide +kernel
theorem dX6_tables_17 : decode cX6_tables 17 = .ok (.getfield 7, 3) := by decide +kernel
theorem dX6_tables_20 : decode cX6_tables 20 = .ok (.iload_n 1, 1) := by decide +kernel
theorem dX6_tables_21 : decode cX6_tables 21 = .ok (.invokestatic 36, 3) := by decide +kernel
theorem dX6_tables_24 : decode cX6_tables 24 = .ok (.iconst 2, 1) := by decide +kernel
theorem dX6_tables_25 : decode cX6_tables 25 = .ok (.iadd, 1) := by decide +kernel
theorem dX6_tables_26 : decode cX6_tables 26 = .ok (.iaload, 1) := by decide +kernel
theorem dX6_tables_27 : decode cX6_tables 27 = .ok (.istore_n 3, 1) := by decide +kernel
theorem dX6_tables_28 : decode cX6_tables 28 = .ok (.aload_n 0, 1) := by decide +kernel
theorem dX6_tables_29 : decode cX6_tables 29 = .ok (.getfield 7, 3) := by decide +kernel
theorem dX6_tables_32 : decode cX6_tables 32 = .ok (.iload_n 1, 1) := by decide +kernel
theorem dX6_tables_33 : decode cX6_tables 33 = .ok (.invokestatic 36, 3) := by decide +kernel
theorem dX6_tables_36 : decode cX6_tables 36 = .ok (.iconst 2, 1) := by decide +kernel
theorem dX6_tables_37 : decode cX6_tables 37 = .ok (.iadd, 1) := by decide +kernel
theorem dX6_tables_38 : decode cX6_tables 38 = .ok (.iload_n 2, 1) := by decide +kernel
theorem dX6_tables_39 : decode cX6_tables 39 = .ok (.iastore, 1) := by decide +kernel
theorem dX6_tables_40 : decode cX6_tables 40 = .ok (.iload_n 3, 1) := by decide +kernel
theorem dX6_tables_41 : decode cX6_tables 41 = .ok (.ireturn, 1) := by decide +kernel
set_option maxRecDepth 20000 in
theorem ggX6_volumes_X6_isOne : GoodIn wsX6_volumes wsX6_isOne := goodIn_r _ [5, 6, 7, 4, 8] (by decide +kernel) (by decide +kernel)
set_option maxRecDepth 20000 in
theorem gX6_volumes_X6_isOne : GoodIn wsX6_volumes (va_wsS RX6 61 yX6_isOne wsX6_isOne) := goodIn_app (goodIn_of _ (by decide +kernel)) ggX6_volumes_X6_isOne
set_option maxRecDepth 20000 in
theorem ggX6_volumes_X6_in : GoodIn wsX6_volumes wsX6_in := goodIn_r _ [8] (by decide +kernel) (by decide +kernel)
set_option maxRecDepth 20000 in
theorem gX6_volumes_X6_in : GoodIn wsX6_volumes (va_wsS RX6 40 yX6_in wsX6_in) := goodIn_app (goodIn_of _ (by decide +kernel)) ggX6_volumes_X6_in
set_option maxRecDepth 20000 in
theorem ggX6_volumes_X6_w : GoodIn wsX6_volumes wsX6_w := goodIn_r _ [11] (by decide +kernel) (by decide +kernel)
set_option maxRecDepth 20000 in
theorem gX6_volumes_X6_w : GoodIn wsX6_volumes (va_wsS RX6 36 yX6_w wsX6_w) := goodIn_app (goodIn_of _ (by decide +kernel)) ggX6_volumes_X6_w
theorem dX6_volumes_0 : decode cX6_volumes 0 = .ok (.iload_n 1, 1) := by decide +kernel
theorem dX6_volumes_1 : decode cX6_volumes 1 = .ok (.invokestatic 61, 3) := by decide +kernel
theorem dX6_volumes_4 : decode cX6_volumes 4 = .ok (.ifCond .ne 5, 3) := by decide +kernel
theorem dX6_volumes_7 : decode cX6_volumes 7 = .ok (.iconst (-1), 1) := by decide +kernel
theorem dX6_volumes_8 : decode cX6_volumes 8 = .ok (.ireturn, 1) := by decide +kernel
theorem dX6_volumes_9 : decode cX6_volumes 9 = .ok (.iload_n 2, 1) := by decide +kernel
theorem dX6_volumes_10 : decode cX6_volumes 10 = .ok (.iconst 0, 1) := by decide +kernel
theorem dX6_volumes_11 : decode cX6_volumes 11 = .ok (.bipush 16, 2) := by decide +kernel
theorem dX6_volumes_13 : decode cX6_volumes 13 = .ok (.invokestatic 40, 3) := by decide +kernel
theorem dX6_volumes_16 : decode cX6_volumes 16 = .ok (.ifCond .ne 6, 3) := by decide +kernel
theorem dX6_volumes_19 : decode cX6_volumes 19 = .ok (.bipush (-2), 2) := by decide +kernel
theorem dX6_volumes_21 : decode cX6_volumes 21 = .ok (.ireturn, 1) := by decide +kernel
theorem dX6_volumes_22 : decode cX6_volumes 22 = .ok (.aload_n 0, 1) := by decide +kernel
theorem dX6_volumes_23 : decode cX6_volumes 23 = .ok (.getfield 7, 3) := by decide +kernel
theorem dX6_volumes_26 : decode cX6_volumes 26 = .ok (.iload_n 1, 1) := by decide +kernel
theorem dX6_volumes_27 : decode cX6_volumes 27 = .ok (.invokestatic 36, 3) := by decide +kernel
theorem dX6_volumes_30 : decode cX6_volumes 30 = .ok (.iconst 3, 1) := by decide +kernel
theorem dX6_volumes_31 : decode cX6_volumes 31 = .ok (.iadd, 1) := by decide +kernel
theorem dX6_volumes_32 : decode cX6_volumes 32 = .ok (.iaload, 1) := by decide +kernel
theorem dX6_volumes_33 : decode cX6_volumes 33 = .ok (.istore_n 3, 1) := by decide +kernel
theorem dX6_volumes_34 : decode cX6_volumes 34 = .ok (.aload_n 0, 1) := by decide +kernel
theorem dX6_volumes_35 : decode cX6_volumes 35 = .ok (.getfield 7, 3) := by decide +kernel
theorem dX6_volumes_38 : decode cX6_volumes 38 = .ok (.iload_n 1, 1) := by decide +kernel
theorem dX6_volumes_39 : decode cX6_volumes 39 = .ok (.invokestatic 36, 3) := by decide +kernel
theorem dX6_volumes_42 : decode cX6_volumes 42 = .ok (.iconst 3, 1) := by decide +kernel
theorem dX6_volumes_43 : decode cX6_volumes 43 = .ok (.iadd, 1) := by decide +kernel
theorem dX6_volumes_44 : decode cX6_volumes 44 = .ok (.iload_n 2, 1) := by decide +kernel
theorem dX6_volumes_45 : decode cX6_volumes 45 = .ok (.iastore, 1) := by decide +kernel
theorem dX6_volumes_46 : decode cX6_volumes 46 = .ok (.iload_n 3, 1) := by decide +kernel
theorem dX6_volumes_47 : decode cX6_volumes 47 = .ok (.ireturn, 1) := by decide +kernel
set_option maxRecDepth 20000 in
theorem ggX6_onWheels_X6_w : GoodIn wsX6_onWheels wsX6_w := goodIn_r _ [5] (by decide +kernel) (by decide +kernel)
set_option maxRecDepth 20000 in
theorem gX6_onWheels_X6_w : GoodIn wsX6_onWheels (va_wsS RX6 36 yX6_w wsX6_w) := goodIn_app (goodIn_of _ (by decide +kernel)) ggX6_onWheels_X6_w
theorem dX6_onWheels_0 : decode cX6_onWheels 0 = .ok (.iconst 0, 1) := by decide +kernel
theorem dX6_onWheels_1 : decode cX6_onWheels 1 = .ok (.istore_n 1, 1) := by decide +kernel
theorem dX6_onWheels_2 : decode cX6_onWheels 2 = .ok (.iconst 0, 1) := by decide +kernel
theorem dX6_onWheels_3 : decode cX6_onWheels 3 = .ok (.istore_n 2, 1) := by decide +kernel
theorem dX6_onWheels_4 : decode cX6_onWheels 4 = .ok (.iload_n 2, 1) := by decide +kernel
theorem dX6_onWheels_5 : decode cX6_onWheels 5 = .ok (.iconst 4, 1) := by decide +kernel
theorem dX6_onWheels_6 : decode cX6_onWheels 6 = .ok (.if_icmp .ge 25, 3) := by decide +kernel
theorem dX6_onWheels_9 : decode cX6_onWheels 9 = .ok (.iload_n 1, 1) := by decide +kernel
theorem dX6_onWheels_10 : decode cX6_onWheels 10 = .ok (.aload_n 0, 1) := by decide +kernel
theorem dX6_onWheels_11 : decode cX6_onWheels 11 = .ok (.getfield 7, 3) := by decide +kernel
theorem dX6_onWheels_14 : decode cX6_onWheels 14 = .ok (.iload_n 2, 1) := by decide +kernel
theorem dX6_onWheels_15 : decode cX6_onWheels 15 = .ok (.invokestatic 36, 3) := by decide +kernel
theorem dX6_onWheels_18 : decode cX6_onWheels 18 = .ok (.iconst 4, 1) := by decide +kernel
theorem dX6_onWheels_19 : decode cX6_onWheels 19 = .ok (.iadd, 1) := by decide +kernel
theorem dX6_onWheels_20 : decode cX6_onWheels 20 = .ok (.iaload, 1) := by decide +kernel
theorem dX6_onWheels_21 : decode cX6_onWheels 21 = .ok (.iload_n 2, 1) := by decide +kernel
theorem dX6_onWheels_22 : decode cX6_onWheels 22 = .ok (.ishl, 1) := by decide +kernel
theorem dX6_onWheels_23 : decode cX6_onWheels 23 = .ok (.ior, 1) := by decide +kernel
theorem dX6_onWheels_24 : decode cX6_onWheels 24 = .ok (.istore_n 1, 1) := by decide +kernel
theorem dX6_onWheels_25 : decode cX6_onWheels 25 = .ok (.iinc 2 1, 3) := by decide +kernel
theorem dX6_onWheels_28 : decode cX6_onWheels 28 = .ok (.goto (-24), 3) := by decide +kernel
theorem dX6_onWheels_31 : decode cX6_onWheels 31 = .ok (.iload_n 1, 1) := by decide +kernel
theorem dX6_onWheels_32 : decode cX6_onWheels 32 = .ok (.ireturn, 1) := by decide +kernel
set_option maxRecDepth 20000 in
theorem ggX6_turns_X6_isOne : GoodIn wsX6_turns wsX6_isOne := goodIn_r _ [5, 6, 7, 4, 8] (by decide +kernel) (by decide +kernel)
set_option maxRecDepth 20000 in
theorem gX6_turns_X6_isOne : GoodIn wsX6_turns (va_wsS RX6 61 yX6_isOne wsX6_isOne) := goodIn_app (goodIn_of _ (by decide +kernel)) ggX6_turns_X6_isOne
set_option maxRecDepth 20000 in
theorem ggX6_turns_X6_w : GoodIn wsX6_turns wsX6_w := goodIn_r _ [11] (by decide +kernel) (by decide +kernel)
set_option maxRecDepth 20000 in
theorem gX6_turns_X6_w : GoodIn wsX6_turns (va_wsS RX6 36 yX6_w wsX6_w) := goodIn_app (goodIn_of _ (by decide +kernel)) ggX6_turns_X6_w
set_option maxRecDepth 20000 in
theorem ggX6_turns_X6_onWheels : GoodIn wsX6_turns wsX6_onWheels := goodIn_r _ [15, 1, 9, 10, 4, 11, 16, 17, 18, 19, 20, 21, 22, 23, 24, 25, 26, 27] (by decide +kernel) (by decide +kernel)
set_option maxRecDepth 20000 in
theorem gX6_turns_X6_onWheels : GoodIn wsX6_turns (wsV RX6 66 RX6 yX6_onWheels wsX6_onWheels) := goodIn_app (goodIn_of _ (by decide +kernel)) ggX6_turns_X6_onWheels
theorem dX6_turns_0 : decode cX6_turns 0 = .ok (.iload_n 1, 1) := by decide +kernel
theorem dX6_turns_1 : decode cX6_turns 1 = .ok (.invokestatic 61, 3) := by decide +kernel
theorem dX6_turns_4 : decode cX6_turns 4 = .ok (.ifCond .ne 5, 3) := by decide +kernel
theorem dX6_turns_7 : decode cX6_turns 7 = .ok (.iconst (-1), 1) := by decide +kernel
theorem dX6_turns_8 : decode cX6_turns 8 = .ok (.ireturn, 1) := by decide +kernel
theorem dX6_turns_9 : decode cX6_turns 9 = .ok (.aload_n 0, 1) := by decide +kernel
theorem dX6_turns_10 : decode cX6_turns 10 = .ok (.getfield 7, 3) := by decide +kernel
theorem dX6_turns_13 : decode cX6_turns 13 = .ok (.iload_n 1, 1) := by decide +kernel
theorem dX6_turns_14 : decode cX6_turns 14 = .ok (.invokestatic 36, 3) := by decide +kernel
theorem dX6_turns_17 : decode cX6_turns 17 = .ok (.iconst 4, 1) := by decide +kernel
theorem dX6_turns_18 : decode cX6_turns 18 = .ok (.iadd, 1) := by decide +kernel
theorem dX6_turns_19 : decode cX6_turns 19 = .ok (.iaload, 1) := by decide +kernel
theorem dX6_turns_20 : decode cX6_turns 20 = .ok (.iload_n 2, 1) := by decide +kernel
theorem dX6_turns_21 : decode cX6_turns 21 = .ok (.if_icmp .ne 6, 3) := by decide +kernel
theorem dX6_turns_24 : decode cX6_turns 24 = .ok (.bipush (-5), 2) := by decide +kernel
theorem dX6_turns_26 : decode cX6_turns 26 = .ok (.ireturn, 1) := by decide +kernel
theorem dX6_turns_27 : decode cX6_turns 27 = .ok (.aload_n 0, 1) := by decide +kernel
theorem dX6_turns_28 : decode cX6_turns 28 = .ok (.getfield 7, 3) := by decide +kernel
theorem dX6_turns_31 : decode cX6_turns 31 = .ok (.iload_n 1, 1) := by decide +kernel
theorem dX6_turns_32 : decode cX6_turns 32 = .ok (.invokestatic 36, 3) := by decide +kernel
theorem dX6_turns_35 : decode cX6_turns 35 = .ok (.iconst 4, 1) := by decide +kernel
theorem dX6_turns_36 : decode cX6_turns 36 = .ok (.iadd, 1) := by decide +kernel
theorem dX6_turns_37 : decode cX6_turns 37 = .ok (.iload_n 2, 1) := by decide +kernel
theorem dX6_turns_38 : decode cX6_turns 38 = .ok (.iastore, 1) := by decide +kernel
theorem dX6_turns_39 : decode cX6_turns 39 = .ok (.aload_n 0, 1) := by decide +kernel
theorem dX6_turns_40 : decode cX6_turns 40 = .ok (.invokevirtual 66, 3) := by decide +kernel
theorem dX6_turns_43 : decode cX6_turns 43 = .ok (.istore_n 3, 1) := by decide +kernel
theorem dX6_turns_44 : decode cX6_turns 44 = .ok (.iload_n 3, 1) := by decide +kernel
theorem dX6_turns_45 : decode cX6_turns 45 = .ok (.iconst 1, 1) := by decide +kernel
theorem dX6_turns_46 : decode cX6_turns 46 = .ok (.iand, 1) := by decide +kernel
theorem dX6_turns_47 : decode cX6_turns 47 = .ok (.iload_n 3, 1) := by decide +kernel
theorem dX6_turns_48 : decode cX6_turns 48 = .ok (.iconst 1, 1) := by decide +kernel
theorem dX6_turns_49 : decode cX6_turns 49 = .ok (.ishr, 1) := by decide +kernel
theorem dX6_turns_50 : decode cX6_turns 50 = .ok (.iconst 1, 1) := by decide +kernel
theorem dX6_turns_51 : decode cX6_turns 51 = .ok (.iand, 1) := by decide +kernel
theorem dX6_turns_52 : decode cX6_turns 52 = .ok (.iadd, 1) := by decide +kernel
theorem dX6_turns_53 : decode cX6_turns 53 = .ok (.iload_n 3, 1) := by decide +kernel
theorem dX6_turns_54 : decode cX6_turns 54 = .ok (.iconst 2, 1) := by decide +kernel
theorem dX6_turns_55 : decode cX6_turns 55 = .ok (.ishr, 1) := by decide +kernel
theorem dX6_turns_56 : decode cX6_turns 56 = .ok (.iconst 1, 1) := by decide +kernel
theorem dX6_turns_57 : decode cX6_turns 57 = .ok (.iand, 1) := by decide +kernel
theorem dX6_turns_58 : decode cX6_turns 58 = .ok (.iadd, 1) := by decide +kernel
theorem dX6_turns_59 : decode cX6_turns 59 = .ok (.iload_n 3, 1) := by decide +kernel
theorem dX6_turns_60 : decode cX6_turns 60 = .ok (.iconst 3, 1) := by decide +kernel
theorem dX6_turns_61 : decode cX6_turns 61 = .ok (.ishr, 1) := by decide +kernel
theorem dX6_turns_62 : decode cX6_turns 62 = .ok (.iadd, 1) := by decide +kernel
theorem dX6_turns_63 : decode cX6_turns 63 = .ok (.ireturn, 1) := by decide +kernel
set_option maxRecDepth 20000 in
theorem ggX6_sweeps_X6_isOne : GoodIn wsX6_sweeps wsX6_isOne := goodIn_r _ [6, 7, 8, 5, 9] (by decide +kernel) (by decide +kernel)
set_option maxRecDepth 20000 in
theorem gX6_sweeps_X6_isOne : GoodIn wsX6_sweeps (va_wsS RX6 61 yX6_isOne wsX6_isOne) := goodIn_app (goodIn_of _ (by decide +kernel)) ggX6_sweeps_X6_isOne
set_option maxRecDepth 20000 in
theorem ggX6_sweeps_X6_in : GoodIn wsX6_sweeps wsX6_in := goodIn_r _ [9] (by decide +kernel) (by decide +kernel)
set_option maxRecDepth 20000 in
theorem gX6_sweeps_X6_in : GoodIn wsX6_sweeps (va_wsS RX6 40 yX6_in wsX6_in) := goodIn_app (goodIn_of _ (by decide +kernel)) ggX6_sweeps_X6_in
set_option maxRecDepth 20000 in
theorem ggX6_sweeps_X6_w : GoodIn wsX6_sweeps wsX6_w := goodIn_r _ [12] (by decide +kernel) (by decide +kernel)
set_option maxRecDepth 20000 in
theorem gX6_sweeps_X6_w : GoodIn wsX6_sweeps (va_wsS RX6 36 yX6_w wsX6_w) := goodIn_app (goodIn_of _ (by decide +kernel)) ggX6_sweeps_X6_w
theorem dX6_sweeps_0 : decode cX6_sweeps 0 = .ok (.iload_n 1, 1) := by decide +kernel
theorem dX6_sweeps_1 : decode cX6_sweeps 1 = .ok (.invokestatic 61, 3) := by decide +kernel
theorem dX6_sweeps_4 : decode cX6_sweeps 4 = .ok (.ifCond .ne 5, 3) := by decide +kernel
theorem dX6_sweeps_7 : decode cX6_sweeps 7 = .ok (.iconst (-1), 1) := by decide +kernel
theorem dX6_sweeps_8 : decode cX6_sweeps 8 = .ok (.ireturn, 1) := by decide +kernel
theorem dX6_sweeps_9 : decode cX6_sweeps 9 = .ok (.iload_n 2, 1) := by decide +kernel
theorem dX6_sweeps_10 : decode cX6_sweeps 10 = .ok (.iconst 0, 1) := by decide +kernel
theorem dX6_sweeps_11 : decode cX6_sweeps 11 = .ok (.ldc 65, 2) := by decide +kernel
theorem dX6_sweeps_13 : decode cX6_sweeps 13 = .ok (.invokestatic 40, 3) := by decide +kernel
theorem dX6_sweeps_16 : decode cX6_sweeps 16 = .ok (.ifCond .eq 14, 3) := by decide +kernel
theorem dX6_sweeps_19 : decode cX6_sweeps 19 = .ok (.iload_n 3, 1) := by decide +kernel
theorem dX6_sweeps_20 : decode cX6_sweeps 20 = .ok (.iconst 1, 1) := by decide +kernel
theorem dX6_sweeps_21 : decode cX6_sweeps 21 = .ok (.sipush 999, 3) := by decide +kernel
theorem dX6_sweeps_24 : decode cX6_sweeps 24 = .ok (.invokestatic 40, 3) := by decide +kernel
theorem dX6_sweeps_27 : decode cX6_sweeps 27 = .ok (.ifCond .ne 6, 3) := by decide +kernel
theorem dX6_sweeps_30 : decode cX6_sweeps 30 = .ok (.bipush (-2), 2) := by decide +kernel
theorem dX6_sweeps_32 : decode cX6_sweeps 32 = .ok (.ireturn, 1) := by decide +kernel
theorem dX6_sweeps_33 : decode cX6_sweeps 33 = .ok (.iload_n 1, 1) := by decide +kernel
theorem dX6_sweeps_34 : decode cX6_sweeps 34 = .ok (.invokestatic 36, 3) := by decide +kernel
theorem dX6_sweeps_37 : decode cX6_sweeps 37 = .ok (.istore 4, 2) := by decide +kernel
theorem dX6_sweeps_39 : decode cX6_sweeps 39 = .ok (.aload_n 0, 1) := by decide +kernel
theorem dX6_sweeps_40 : decode cX6_sweeps 40 = .ok (.getfield 7, 3) := by decide +kernel
theorem dX6_sweeps_43 : decode cX6_sweeps 43 = .ok (.iload 4, 2) := by decide +kernel
theorem dX6_sweeps_45 : decode cX6_sweeps 45 = .ok (.iconst 5, 1) := by decide +kernel
theorem dX6_sweeps_46 : decode cX6_sweeps 46 = .ok (.iadd, 1) := by decide +kernel
theorem dX6_sweeps_47 : decode cX6_sweeps 47 = .ok (.iaload, 1) := by decide +kernel
theorem dX6_sweeps_48 : decode cX6_sweeps 48 = .ok (.istore 5, 2) := by decide +kernel
theorem dX6_sweeps_50 : decode cX6_sweeps 50 = .ok (.iload 5, 2) := by decide +kernel
theorem dX6_sweeps_52 : decode cX6_sweeps 52 = .ok (.iconst 4, 1) := by decide +kernel
theorem dX6_sweeps_53 : decode cX6_sweeps 53 = .ok (.if_icmp .ne 6, 3) := by decide +kernel
theorem dX6_sweeps_56 : decode cX6_sweeps 56 = .ok (.bipush (-4), 2) := by decide +kernel
theorem dX6_sweeps_58 : decode cX6_sweeps 58 = .ok (.ireturn, 1) := by decide +kernel
theorem dX6_sweeps_59 : decode cX6_sweeps 59 = .ok (.aload_n 0, 1) := by decide +kernel
theorem dX6_sweeps_60 : decode cX6_sweeps 60 = .ok (.getfield 7, 3) := by decide +kernel
theorem dX6_sweeps_63 : decode cX6_sweeps 63 = .ok (.iload 4, 2) := by decide +kernel
theorem dX6_sweeps_65 : decode cX6_sweeps 65 = .ok (.bipush 8, 2) := by decide +kernel
theorem dX6_sweeps_67 : decode cX6_sweeps 67 = .ok (.iadd, 1) := by decide +kernel
theorem dX6_sweeps_68 : decode cX6_sweeps 68 = .ok (.iconst 2, 1) := by decide +kernel
theorem dX6_sweeps_69 : decode cX6_sweeps 69 = .ok (.iload 5, 2) := by decide +kernel
theorem dX6_sweeps_71 : decode cX6_sweeps 71 = .ok (.imul, 1) := by decide +kernel
theorem dX6_sweeps_72 : decode cX6_sweeps 72 = .ok (.iadd, 1) := by decide +kernel
theorem dX6_sweeps_73 : decode cX6_sweeps 73 = .ok (.iload_n 2, 1) := by decide +kernel
theorem dX6_sweeps_74 : decode cX6_sweeps 74 = .ok (.iastore, 1) := by decide +kernel
theorem dX6_sweeps_75 : decode cX6_sweeps 75 = .ok (.aload_n 0, 1) := by decide +kernel
theorem dX6_sweeps_76 : decode cX6_sweeps 76 = .ok (.getfield 7, 3) := by decide +kernel
theorem dX6_sweeps_79 : decode cX6_sweeps 79 = .ok (.iload 4, 2) := by decide +kernel
theorem dX6_sweeps_81 : decode cX6_sweeps 81 = .ok (.bipush 8, 2) := by decide +kernel
theorem dX6_sweeps_83 : decode cX6_sweeps 83 = .ok (.iadd, 1) := by decide +kernel
theorem dX6_sweeps_84 : decode cX6_sweeps 84 = .ok (.iconst 2, 1) := by decide +kernel
theorem dX6_sweeps_85 : decode cX6_sweeps 85 = .ok (.iload 5, 2) := by decide +kernel
theorem dX6_sweeps_87 : decode cX6_sweeps 87 = .ok (.imul, 1) := by decide +kernel
theorem dX6_sweeps_88 : decode cX6_sweeps 88 = .ok (.iadd, 1) := by decide +kernel
theorem dX6_sweeps_89 : decode cX6_sweeps 89 = .ok (.iconst 1, 1) := by decide +kernel
theorem dX6_sweeps_90 : decode cX6_sweeps 90 = .ok (.iadd, 1) := by decide +kernel
theorem dX6_sweeps_91 : decode cX6_sweeps 91 = .ok (.iload_n 3, 1) := by decide +kernel
theorem dX6_sweeps_92 : decode cX6_sweeps 92 = .ok (.iastore, 1) := by decide +kernel
theorem dX6_sweeps_93 : decode cX6_sweeps 93 = .ok (.aload_n 0, 1) := by decide +kernel
theorem dX6_sweeps_94 : decode cX6_sweeps 94 = .ok (.getfield 7, 3) := by decide +kernel
theorem dX6_sweeps_97 : decode cX6_sweeps 97 = .ok (.iload 4, 2) := by decide +kernel
theorem dX6_sweeps_99 : decode cX6_sweeps 99 = .ok (.iconst 5, 1) := by decide +kernel
theorem dX6_sweeps_100 : decode cX6_sweeps 100 = .ok (.iadd, 1) := by decide +kernel
theorem dX6_sweeps_101 : decode cX6_sweeps 101 = .ok (.dup2, 1) := by decide +kernel
theorem dX6_sweeps_102 : decode cX6_sweeps 102 = .ok (.iaload, 1) := by decide +kernel
theorem dX6_sweeps_103 : decode cX6_sweeps 103 = .ok (.iconst 1, 1) := by decide +kernel
theorem dX6_sweeps_104 : decode cX6_sweeps 104 = .ok (.iadd, 1) := by decide +kernel
theorem dX6_sweeps_105 : decode cX6_sweeps 105 = .ok (.iastore, 1) := by decide +kernel
theorem dX6_sweeps_106 : decode cX6_sweeps 106 = .ok (.iload 5, 2) := by decide +kernel
theorem dX6_sweeps_108 : decode cX6_sweeps 108 = .ok (.ifCond .ne 33, 3) := by decide +kernel
theorem dX6_sweeps_111 : decode cX6_sweeps 111 = .ok (.aload_n 0, 1) := by decide +kernel
theorem dX6_sweeps_112 : decode cX6_sweeps 112 = .ok (.getfield 7, 3) := by decide +kernel
theorem dX6_sweeps_115 : decode cX6_sweeps 115 = .ok (.iload 4, 2) := by decide +kernel
theorem dX6_sweeps_117 : decode cX6_sweeps 117 = .ok (.bipush 6, 2) := by decide +kernel
theorem dX6_sweeps_119 : decode cX6_sweeps 119 = .ok (.iadd, 1) := by decide +kernel
theorem dX6_sweeps_120 : decode cX6_sweeps 120 = .ok (.iconst 0, 1) := by decide +kernel
theorem dX6_sweeps_121 : decode cX6_sweeps 121 = .ok (.iastore, 1) := by decide +kernel
theorem dX6_sweeps_122 : decode cX6_sweeps 122 = .ok (.aload_n 0, 1) := by decide +kernel
theorem dX6_sweeps_123 : decode cX6_sweeps 123 = .ok (.getfield 7, 3) := by decide +kernel
theorem dX6_sweeps_126 : decode cX6_sweeps 126 = .ok (.iload 4, 2) := by decide +kernel
theorem dX6_sweeps_128 : decode cX6_sweeps 128 = .ok (.bipush 7, 2) := by decide +kernel
theorem dX6_sweeps_130 : decode cX6_sweeps 130 = .ok (.iadd, 1) := by decide +kernel
theorem dX6_sweeps_131 : decode cX6_sweeps 131 = .ok (.aload_n 0, 1) := by decide +kernel
theorem dX6_sweeps_132 : decode cX6_sweeps 132 = .ok (.getfield 7, 3) := by decide +kernel
theorem dX6_sweeps_135 : decode cX6_sweeps 135 = .ok (.iload 4, 2) := by decide +kernel
theorem dX6_sweeps_137 : decode cX6_sweeps 137 = .ok (.iconst 1, 1) := by decide +kernel
theorem dX6_sweeps_138 : decode cX6_sweeps 138 = .ok (.iadd, 1) := by decide +kernel
theorem dX6_sweeps_139 : decode cX6_sweeps 139 = .ok (.iaload, 1) := by decide +kernel
theorem dX6_sweeps_140 : decode cX6_sweeps 140 = .ok (.iastore, 1) := by decide +kernel
theorem dX6_sweeps_141 : decode cX6_sweeps 141 = .ok (.iload 5, 2) := by decide +kernel
theorem dX6_sweeps_143 : decode cX6_sweeps 143 = .ok (.iconst 1, 1) := by decide +kernel
theorem dX6_sweeps_144 : decode cX6_sweeps 144 = .ok (.iadd, 1) := by decide +kernel
theorem dX6_sweeps_145 : decode cX6_sweeps 145 = .ok (.ireturn, 1) := by decide +kernel
set_option maxRecDepth 20000 in
theorem ggX6_makesAll_X6_in : GoodIn wsX6_makesAll wsX6_in := goodIn_r _ [6] (by decide +kernel) (by decide +kernel)
set_option maxRecDepth 20000 in
theorem gX6_makesAll_X6_in : GoodIn wsX6_makesAll (va_wsS RX6 40 yX6_in wsX6_in) := goodIn_app (goodIn_of _ (by decide +kernel)) ggX6_makesAll_X6_in
set_option maxRecDepth 20000 in
theorem ggX6_makesAll_X6_makes : GoodIn wsX6_makesAll wsX6_makes := goodIn_r _ [10, 1, 11, 12, 13, 14, 5, 15, 16, 17, 18, 19, 20, 21, 22, 23, 24, 25, 26, 27, 28, 29, 30, 31, 32, 33, 34, 35, 36, 37, 38, 39] (by decide +kernel) (by decide +kernel)
set_option maxRecDepth 20000 in
theorem gX6_makesAll_X6_makes : GoodIn wsX6_makesAll (wsV RX6 70 RX6 yX6_makes wsX6_makes) := goodIn_app (goodIn_of _ (by decide +kernel)) ggX6_makesAll_X6_makes
theorem dX6_makesAll_0 : decode cX6_makesAll 0 = .ok (.iload_n 1, 1) := by decide +kernel
theorem dX6_makesAll_1 : decode cX6_makesAll 1 = .ok (.iconst 1, 1) := by decide +kernel
theorem dX6_makesAll_2 : decode cX6_makesAll 2 = .ok (.sipush 999, 3) := by decide +kernel
theorem dX6_makesAll_5 : decode cX6_makesAll 5 = .ok (.invokestatic 40, 3) := by decide +kernel
theorem dX6_makesAll_8 : decode cX6_makesAll 8 = .ok (.ifCond .ne 6, 3) := by decide +kernel
theorem dX6_makesAll_11 : decode cX6_makesAll 11 = .ok (.bipush (-2), 2) := by decide +kernel
theorem dX6_makesAll_13 : decode cX6_makesAll 13 = .ok (.ireturn, 1) := by decide +kernel
theorem dX6_makesAll_14 : decode cX6_makesAll 14 = .ok (.aload_n 0, 1) := by decide +kernel
theorem dX6_makesAll_15 : decode cX6_makesAll 15 = .ok (.getfield 7, 3) := by decide +kernel
theorem dX6_makesAll_18 : decode cX6_makesAll 18 = .ok (.iconst 1, 1) := by decide +kernel
theorem dX6_makesAll_19 : decode cX6_makesAll 19 = .ok (.iaload, 1) := by decide +kernel
theorem dX6_makesAll_20 : decode cX6_makesAll 20 = .ok (.ldc 69, 2) := by decide +kernel
theorem dX6_makesAll_22 : decode cX6_makesAll 22 = .ok (.iload_n 1, 1) := by decide +kernel
theorem dX6_makesAll_23 : decode cX6_makesAll 23 = .ok (.isub, 1) := by decide +kernel
theorem dX6_makesAll_24 : decode cX6_makesAll 24 = .ok (.if_icmp .le 6, 3) := by decide +kernel
theorem dX6_makesAll_27 : decode cX6_makesAll 27 = .ok (.bipush (-4), 2) := by decide +kernel
theorem dX6_makesAll_29 : decode cX6_makesAll 29 = .ok (.ireturn, 1) := by decide +kernel
theorem dX6_makesAll_30 : decode cX6_makesAll 30 = .ok (.iconst 0, 1) := by decide +kernel
theorem dX6_makesAll_31 : decode cX6_makesAll 31 = .ok (.istore_n 2, 1) := by decide +kernel
theorem dX6_makesAll_32 : decode cX6_makesAll 32 = .ok (.iconst 0, 1) := by decide +kernel
theorem dX6_makesAll_33 : decode cX6_makesAll 33 = .ok (.istore_n 3, 1) := by decide +kernel
theorem dX6_makesAll_34 : decode cX6_makesAll 34 = .ok (.iload_n 3, 1) := by decide +kernel
theorem dX6_makesAll_35 : decode cX6_makesAll 35 = .ok (.iload_n 1, 1) := by decide +kernel
theorem dX6_makesAll_36 : decode cX6_makesAll 36 = .ok (.if_icmp .ge 14, 3) := by decide +kernel
theorem dX6_makesAll_39 : decode cX6_makesAll 39 = .ok (.aload_n 0, 1) := by decide +kernel
theorem dX6_makesAll_40 : decode cX6_makesAll 40 = .ok (.invokevirtual 70, 3) := by decide +kernel
theorem dX6_makesAll_43 : decode cX6_makesAll 43 = .ok (.istore_n 2, 1) := by decide +kernel
theorem dX6_makesAll_44 : decode cX6_makesAll 44 = .ok (.iinc 3 1, 3) := by decide +kernel
theorem dX6_makesAll_47 : decode cX6_makesAll 47 = .ok (.goto (-13), 3) := by decide +kernel
theorem dX6_makesAll_50 : decode cX6_makesAll 50 = .ok (.iload_n 2, 1) := by decide +kernel
theorem dX6_makesAll_51 : decode cX6_makesAll 51 = .ok (.ireturn, 1) := by decide +kernel
set_option maxRecDepth 20000 in
theorem ggX6_clip_X6_in : GoodIn wsX6_clip wsX6_in := goodIn_r _ [5] (by decide +kernel) (by decide +kernel)
set_option maxRecDepth 20000 in
theorem gX6_clip_X6_in : GoodIn wsX6_clip (va_wsS RX6 40 yX6_in wsX6_in) := goodIn_app (goodIn_of _ (by decide +kernel)) ggX6_clip_X6_in
set_option maxRecDepth 20000 in
theorem ggX6_clip_X6_hold : GoodIn wsX6_clip wsX6_hold := goodIn_r _ [9, 10, 1, 17, 18, 19, 20, 21, 22, 23, 24, 25, 26, 27, 28] (by decide +kernel) (by decide +kernel)
set_option maxRecDepth 20000 in
theorem gX6_clip_X6_hold : GoodIn wsX6_clip (wsV RX6 73 RX6 yX6_hold wsX6_hold) := goodIn_app (goodIn_of _ (by decide +kernel)) ggX6_clip_X6_hold
set_option maxRecDepth 20000 in
theorem ggX6_clip_X6_recorded : GoodIn wsX6_clip wsX6_recorded := goodIn_r _ [14, 15, 16, 10, 17, 18, 19, 20, 21, 22, 23, 24, 25, 26, 27, 28] (by decide +kernel) (by decide +kernel)
set_option maxRecDepth 20000 in
theorem gX6_clip_X6_recorded : GoodIn wsX6_clip (wsV RX6 76 RX6 yX6_recorded wsX6_recorded) := goodIn_app (goodIn_of _ (by decide +kernel)) ggX6_clip_X6_recorded
theorem dX6_clip_0 : decode cX6_clip 0 = .ok (.iload_n 1, 1) := by decide +kernel
theorem dX6_clip_1 : decode cX6_clip 1 = .ok (.iconst 1, 1) := by decide +kernel
theorem dX6_clip_2 : decode cX6_clip 2 = .ok (.sipush 960, 3) := by decide +kernel
theorem dX6_clip_5 : decode cX6_clip 5 = .ok (.invokestatic 40, 3) := by decide +kernel
theorem dX6_clip_8 : decode cX6_clip 8 = .ok (.ifCond .ne 6, 3) := by decide +kernel
theorem dX6_clip_11 : decode cX6_clip 11 = .ok (.bipush (-2), 2) := by decide +kernel
theorem dX6_clip_13 : decode cX6_clip 13 = .ok (.ireturn, 1) := by decide +kernel
theorem dX6_clip_14 : decode cX6_clip 14 = .ok (.aload_n 0, 1) := by decide +kernel
theorem dX6_clip_15 : decode cX6_clip 15 = .ok (.invokevirtual 73, 3) := by decide +kernel
theorem dX6_clip_18 : decode cX6_clip 18 = .ok (.aload_n 0, 1) := by decide +kernel
theorem dX6_clip_19 : decode cX6_clip 19 = .ok (.getfield 7, 3) := by decide +kernel
theorem dX6_clip_22 : decode cX6_clip 22 = .ok (.iconst 0, 1) := by decide +kernel
theorem dX6_clip_23 : decode cX6_clip 23 = .ok (.iaload, 1) := by decide +kernel
theorem dX6_clip_24 : decode cX6_clip 24 = .ok (.istore_n 2, 1) := by decide +kernel
theorem dX6_clip_25 : decode cX6_clip 25 = .ok (.aload_n 0, 1) := by decide +kernel
theorem dX6_clip_26 : decode cX6_clip 26 = .ok (.getfield 7, 3) := by decide +kernel
theorem dX6_clip_29 : decode cX6_clip 29 = .ok (.iconst 0, 1) := by decide +kernel
theorem dX6_clip_30 : decode cX6_clip 30 = .ok (.iload_n 1, 1) := by decide +kernel
theorem dX6_clip_31 : decode cX6_clip 31 = .ok (.iastore, 1) := by decide +kernel
theorem dX6_clip_32 : decode cX6_clip 32 = .ok (.aload_n 0, 1) := by decide +kernel
theorem dX6_clip_33 : decode cX6_clip 33 = .ok (.iload_n 2, 1) := by decide +kernel
theorem dX6_clip_34 : decode cX6_clip 34 = .ok (.invokevirtual 76, 3) := by decide +kernel
theorem dX6_clip_37 : decode cX6_clip 37 = .ok (.ireturn, 1) := by decide +kernel
set_option maxRecDepth 20000 in
theorem ggX6_fill_X6_isOne : GoodIn wsX6_fill wsX6_isOne := goodIn_r _ [5, 6, 7, 4, 8] (by decide +kernel) (by decide +kernel)
set_option maxRecDepth 20000 in
theorem gX6_fill_X6_isOne : GoodIn wsX6_fill (va_wsS RX6 61 yX6_isOne wsX6_isOne) := goodIn_app (goodIn_of _ (by decide +kernel)) ggX6_fill_X6_isOne
set_option maxRecDepth 20000 in
theorem ggX6_fill_X6_in : GoodIn wsX6_fill wsX6_in := goodIn_r _ [8] (by decide +kernel) (by decide +kernel)
set_option maxRecDepth 20000 in
theorem gX6_fill_X6_in : GoodIn wsX6_fill (va_wsS RX6 40 yX6_in wsX6_in) := goodIn_app (goodIn_of _ (by decide +kernel)) ggX6_fill_X6_in
set_option maxRecDepth 20000 in
theorem ggX6_fill_X6_hold : GoodIn wsX6_fill wsX6_hold := goodIn_r _ [12, 13, 1, 20, 21, 22, 23, 24, 25, 26, 27, 28, 29, 30, 31] (by decide +kernel) (by decide +kernel)
set_option maxRecDepth 20000 in
theorem gX6_fill_X6_hold : GoodIn wsX6_fill (wsV RX6 73 RX6 yX6_hold wsX6_hold) := goodIn_app (goodIn_of _ (by decide +kernel)) ggX6_fill_X6_hold
set_option maxRecDepth 20000 in
theorem ggX6_fill_X6_recorded : GoodIn wsX6_fill wsX6_recorded := goodIn_r _ [17, 18, 19, 13, 20, 21, 22, 23, 24, 25, 26, 27, 28, 29, 30, 31] (by decide +kernel) (by decide +kernel)
set_option maxRecDepth 20000 in
theorem gX6_fill_X6_recorded : GoodIn wsX6_fill (wsV RX6 76 RX6 yX6_recorded wsX6_recorded) := goodIn_app (goodIn_of _ (by decide +kernel)) ggX6_fill_X6_recorded
theorem dX6_fill_0 : decode cX6_fill 0 = .ok (.iload_n 1, 1) := by decide +kernel
theorem dX6_fill_1 : decode cX6_fill 1 = .ok (.invokestatic 61, 3) := by decide +kernel
theorem dX6_fill_4 : decode cX6_fill 4 = .ok (.ifCond .eq 13, 3) := by decide +kernel
theorem dX6_fill_7 : decode cX6_fill 7 = .ok (.iload_n 2, 1) := by decide +kernel
theorem dX6_fill_8 : decode cX6_fill 8 = .ok (.iconst 0, 1) := by decide +kernel
theorem dX6_fill_9 : decode cX6_fill 9 = .ok (.bipush 15, 2) := by decide +kernel
theorem dX6_fill_11 : decode cX6_fill 11 = .ok (.invokestatic 40, 3) := by decide +kernel
theorem dX6_fill_14 : decode cX6_fill 14 = .ok (.ifCond .ne 5, 3) := by decide +kernel
theorem dX6_fill_17 : decode cX6_fill 17 = .ok (.iconst (-1), 1) := by decide +kernel
theorem dX6_fill_18 : decode cX6_fill 18 = .ok (.ireturn, 1) := by decide +kernel
theorem dX6_fill_19 : decode cX6_fill 19 = .ok (.iload_n 3, 1) := by decide +kernel
theorem dX6_fill_20 : decode cX6_fill 20 = .ok (.iconst 0, 1) := by decide +kernel
theorem dX6_fill_21 : decode cX6_fill 21 = .ok (.bipush 15, 2) := by decide +kernel
theorem dX6_fill_23 : decode cX6_fill 23 = .ok (.invokestatic 40, 3) := by decide +kernel
theorem dX6_fill_26 : decode cX6_fill 26 = .ok (.ifCond .ne 6, 3) := by decide +kernel
theorem dX6_fill_29 : decode cX6_fill 29 = .ok (.bipush (-2), 2) := by decide +kernel
theorem dX6_fill_31 : decode cX6_fill 31 = .ok (.ireturn, 1) := by decide +kernel
theorem dX6_fill_32 : decode cX6_fill 32 = .ok (.aload_n 0, 1) := by decide +kernel
theorem dX6_fill_33 : decode cX6_fill 33 = .ok (.invokevirtual 73, 3) := by decide +kernel
theorem dX6_fill_36 : decode cX6_fill 36 = .ok (.aload_n 0, 1) := by decide +kernel
theorem dX6_fill_37 : decode cX6_fill 37 = .ok (.getfield 7, 3) := by decide +kernel
theorem dX6_fill_40 : decode cX6_fill 40 = .ok (.bipush 6, 2) := by decide +kernel
theorem dX6_fill_42 : decode cX6_fill 42 = .ok (.bipush 16, 2) := by decide +kernel
theorem dX6_fill_44 : decode cX6_fill 44 = .ok (.iload_n 1, 1) := by decide +kernel
theorem dX6_fill_45 : decode cX6_fill 45 = .ok (.imul, 1) := by decide +kernel
theorem dX6_fill_46 : decode cX6_fill 46 = .ok (.iadd, 1) := by decide +kernel
theorem dX6_fill_47 : decode cX6_fill 47 = .ok (.iload_n 2, 1) := by decide +kernel
theorem dX6_fill_48 : decode cX6_fill 48 = .ok (.iadd, 1) := by decide +kernel
theorem dX6_fill_49 : decode cX6_fill 49 = .ok (.iaload, 1) := by decide +kernel
theorem dX6_fill_50 : decode cX6_fill 50 = .ok (.istore 4, 2) := by decide +kernel
theorem dX6_fill_52 : decode cX6_fill 52 = .ok (.aload_n 0, 1) := by decide +kernel
theorem dX6_fill_53 : decode cX6_fill 53 = .ok (.getfield 7, 3) := by decide +kernel
theorem dX6_fill_56 : decode cX6_fill 56 = .ok (.bipush 6, 2) := by decide +kernel
theorem dX6_fill_58 : decode cX6_fill 58 = .ok (.bipush 16, 2) := by decide +kernel
theorem dX6_fill_60 : decode cX6_fill 60 = .ok (.iload_n 1, 1) := by decide +kernel
theorem dX6_fill_61 : decode cX6_fill 61 = .ok (.imul, 1) := by decide +kernel
theorem dX6_fill_62 : decode cX6_fill 62 = .ok (.iadd, 1) := by decide +kernel
theorem dX6_fill_63 : decode cX6_fill 63 = .ok (.iload_n 2, 1) := by decide +kernel
theorem dX6_fill_64 : decode cX6_fill 64 = .ok (.iadd, 1) := by decide +kernel
theorem dX6_fill_65 : decode cX6_fill 65 = .ok (.iload_n 3, 1) := by decide +kernel
theorem dX6_fill_66 : decode cX6_fill 66 = .ok (.iastore, 1) := by decide +kernel
theorem dX6_fill_67 : decode cX6_fill 67 = .ok (.aload_n 0, 1) := by decide +kernel
theorem dX6_fill_68 : decode cX6_fill 68 = .ok (.iload 4, 2) := by decide +kernel
theorem dX6_fill_70 : decode cX6_fill 70 = .ok (.invokevirtual 76, 3) := by decide +kernel
theorem dX6_fill_73 : decode cX6_fill 73 = .ok (.ireturn, 1) := by decide +kernel
set_option maxRecDepth 20000 in
theorem ggX6_step_X6_hold : GoodIn wsX6_step wsX6_hold := goodIn_r _ [5, 6, 7, 28, 29, 30, 31, 32, 33, 34, 35, 36, 37, 38, 39] (by decide +kernel) (by decide +kernel)
set_option maxRecDepth 20000 in
theorem gX6_step_X6_hold : GoodIn wsX6_step (wsV RX6 73 RX6 yX6_hold wsX6_hold) := goodIn_app (goodIn_of _ (by decide +kernel)) ggX6_step_X6_hold
set_option maxRecDepth 20000 in
theorem ggX6_step_X6_steps : GoodIn wsX6_step wsX6_steps := goodIn_r _ [11, 12, 7, 13, 14, 4, 15, 16, 17, 18, 19, 20, 21, 28, 29, 30, 31, 32, 33, 34, 35, 36, 37, 38, 39] (by decide +kernel) (by decide +kernel)
set_option maxRecDepth 20000 in
theorem gX6_step_X6_steps : GoodIn wsX6_step (wsV RX6 79 RX6 yX6_steps wsX6_steps) := goodIn_app (goodIn_of _ (by decide +kernel)) ggX6_step_X6_steps
set_option maxRecDepth 20000 in
theorem ggX6_step_X6_recorded : GoodIn wsX6_step wsX6_recorded := goodIn_r _ [25, 26, 27, 6, 28, 29, 30, 31, 32, 33, 34, 35, 36, 37, 38, 39] (by decide +kernel) (by decide +kernel)
set_option maxRecDepth 20000 in
theorem gX6_step_X6_recorded : GoodIn wsX6_step (wsV RX6 76 RX6 yX6_recorded wsX6_recorded) := goodIn_app (goodIn_of _ (by decide +kernel)) ggX6_step_X6_recorded
theorem dX6_step_0 : decode cX6_step 0 = .ok (.aload_n 0, 1) := by decide +kernel
theorem dX6_step_1 : decode cX6_step 1 = .ok (.invokevirtual 73, 3) := by decide +kernel
theorem dX6_step_4 : decode cX6_step 4 = .ok (.aload_n 0, 1) := by decide +kernel
theorem dX6_step_5 : decode cX6_step 5 = .ok (.aload_n 0, 1) := by decide +kernel
theorem dX6_step_6 : decode cX6_step 6 = .ok (.iload_n 1, 1) := by decide +kernel
theorem dX6_step_7 : decode cX6_step 7 = .ok (.iload_n 2, 1) := by decide +kernel
theorem dX6_step_8 : decode cX6_step 8 = .ok (.invokevirtual 79, 3) := by decide +kernel
theorem dX6_step_11 : decode cX6_step 11 = .ok (.invokevirtual 76, 3) := by decide +kernel
theorem dX6_step_14 : decode cX6_step 14 = .ok (.ireturn, 1) := by decide +kernel
set_option maxRecDepth 20000 in
theorem ggX6_table_X6_hold : GoodIn wsX6_table wsX6_hold := goodIn_r _ [5, 6, 7, 27, 28, 29, 30, 31, 32, 33, 34, 35, 36, 37, 38] (by decide +kernel) (by decide +kernel)
set_option maxRecDepth 20000 in
theorem gX6_table_X6_hold : GoodIn wsX6_table (wsV RX6 73 RX6 yX6_hold wsX6_hold) := goodIn_app (goodIn_of _ (by decide +kernel)) ggX6_table_X6_hold
set_option maxRecDepth 20000 in
theorem ggX6_table_X6_tables : GoodIn wsX6_table wsX6_tables := goodIn_r _ [11, 7, 12, 13, 4, 14, 15, 16, 17, 18, 19, 20, 27, 28, 29, 30, 31, 32, 33, 34, 35, 36, 37, 38] (by decide +kernel) (by decide +kernel)
set_option maxRecDepth 20000 in
theorem gX6_table_X6_tables : GoodIn wsX6_table (wsV RX6 83 RX6 yX6_tables wsX6_tables) := goodIn_app (goodIn_of _ (by decide +kernel)) ggX6_table_X6_tables
set_option maxRecDepth 20000 in
theorem ggX6_table_X6_recorded : GoodIn wsX6_table wsX6_recorded := goodIn_r _ [24, 25, 26, 6, 27, 28, 29, 30, 31, 32, 33, 34, 35, 36, 37, 38] (by decide +kernel) (by decide +kernel)
set_option maxRecDepth 20000 in
theorem gX6_table_X6_recorded : GoodIn wsX6_table (wsV RX6 76 RX6 yX6_recorded wsX6_recorded) := goodIn_app (goodIn_of _ (by decide +kernel)) ggX6_table_X6_recorded
theorem dX6_table_0 : decode cX6_table 0 = .ok (.aload_n 0, 1) := by decide +kernel
theorem dX6_table_1 : decode cX6_table 1 = .ok (.invokevirtual 73, 3) := by decide +kernel
theorem dX6_table_4 : decode cX6_table 4 = .ok (.aload_n 0, 1) := by decide +kernel
theorem dX6_table_5 : decode cX6_table 5 = .ok (.aload_n 0, 1) := by decide +kernel
theorem dX6_table_6 : decode cX6_table 6 = .ok (.iload_n 1, 1) := by decide +kernel
theorem dX6_table_7 : decode cX6_table 7 = .ok (.iload_n 2, 1) := by decide +kernel
theorem dX6_table_8 : decode cX6_table 8 = .ok (.invokevirtual 83, 3) := by decide +kernel
theorem dX6_table_11 : decode cX6_table 11 = .ok (.invokevirtual 76, 3) := by decide +kernel
theorem dX6_table_14 : decode cX6_table 14 = .ok (.ireturn, 1) := by decide +kernel
set_option maxRecDepth 20000 in
theorem ggX6_volume_X6_hold : GoodIn wsX6_volume wsX6_hold := goodIn_r _ [5, 6, 7, 27, 28, 29, 30, 31, 32, 33, 34, 35, 36, 37, 38] (by decide +kernel) (by decide +kernel)
set_option maxRecDepth 20000 in
theorem gX6_volume_X6_hold : GoodIn wsX6_volume (wsV RX6 73 RX6 yX6_hold wsX6_hold) := goodIn_app (goodIn_of _ (by decide +kernel)) ggX6_volume_X6_hold
set_option maxRecDepth 20000 in
theorem ggX6_volume_X6_volumes : GoodIn wsX6_volume wsX6_volumes := goodIn_r _ [11, 7, 12, 13, 4, 14, 15, 16, 17, 18, 19, 20, 27, 28, 29, 30, 31, 32, 33, 34, 35, 36, 37, 38] (by decide +kernel) (by decide +kernel)
set_option maxRecDepth 20000 in
theorem gX6_volume_X6_volumes : GoodIn wsX6_volume (wsV RX6 86 RX6 yX6_volumes wsX6_volumes) := goodIn_app (goodIn_of _ (by decide +kernel)) ggX6_volume_X6_volumes
set_option maxRecDepth 20000 in
theorem ggX6_volume_X6_recorded : GoodIn wsX6_volume wsX6_recorded := goodIn_r _ [24, 25, 26, 6, 27, 28, 29, 30, 31, 32, 33, 34, 35, 36, 37, 38] (by decide +kernel) (by decide +kernel)
set_option maxRecDepth 20000 in
theorem gX6_volume_X6_recorded : GoodIn wsX6_volume (wsV RX6 76 RX6 yX6_recorded wsX6_recorded) := goodIn_app (goodIn_of _ (by decide +kernel)) ggX6_volume_X6_recorded
theorem dX6_volume_0 : decode cX6_volume 0 = .ok (.aload_n 0, 1) := by decide +kernel
theorem dX6_volume_1 : decode cX6_volume 1 = .ok (.invokevirtual 73, 3) := by decide +kernel
theorem dX6_volume_4 : decode cX6_volume 4 = .ok (.aload_n 0, 1) := by decide +kernel
theorem dX6_volume_5 : decode cX6_volume 5 = .ok (.aload_n 0, 1) := by decide +kernel
theorem dX6_volume_6 : decode cX6_volume 6 = .ok (.iload_n 1, 1) := by decide +kernel
theorem dX6_volume_7 : decode cX6_volume 7 = .ok (.iload_n 2, 1) := by decide +kernel
theorem dX6_volume_8 : decode cX6_volume 8 = .ok (.invokevirtual 86, 3) := by decide +kernel
theorem dX6_volume_11 : decode cX6_volume 11 = .ok (.invokevirtual 76, 3) := by decide +kernel
theorem dX6_volume_14 : decode cX6_volume 14 = .ok (.ireturn, 1) := by decide +kernel
set_option maxRecDepth 20000 in
theorem ggX6_turn_X6_hold : GoodIn wsX6_turn wsX6_hold := goodIn_r _ [5, 6, 7, 31, 32, 33, 34, 35, 36, 37, 38, 39, 40, 41, 42] (by decide +kernel) (by decide +kernel)
set_option maxRecDepth 20000 in
theorem gX6_turn_X6_hold : GoodIn wsX6_turn (wsV RX6 73 RX6 yX6_hold wsX6_hold) := goodIn_app (goodIn_of _ (by decide +kernel)) ggX6_turn_X6_hold
set_option maxRecDepth 20000 in
theorem ggX6_turn_X6_turns : GoodIn wsX6_turn wsX6_turns := goodIn_r _ [11, 7, 12, 13, 4, 14, 15, 16, 17, 18, 19, 20, 21, 22, 23, 24, 31, 32, 33, 34, 35, 36, 37, 38, 39, 40, 41, 42] (by decide +kernel) (by decide +kernel)
set_option maxRecDepth 20000 in
theorem gX6_turn_X6_turns : GoodIn wsX6_turn (wsV RX6 89 RX6 yX6_turns wsX6_turns) := goodIn_app (goodIn_of _ (by decide +kernel)) ggX6_turn_X6_turns
set_option maxRecDepth 20000 in
theorem ggX6_turn_X6_recorded : GoodIn wsX6_turn wsX6_recorded := goodIn_r _ [28, 29, 30, 6, 31, 32, 33, 34, 35, 36, 37, 38, 39, 40, 41, 42] (by decide +kernel) (by decide +kernel)
set_option maxRecDepth 20000 in
theorem gX6_turn_X6_recorded : GoodIn wsX6_turn (wsV RX6 76 RX6 yX6_recorded wsX6_recorded) := goodIn_app (goodIn_of _ (by decide +kernel)) ggX6_turn_X6_recorded
theorem dX6_turn_0 : decode cX6_turn 0 = .ok (.aload_n 0, 1) := by decide +kernel
theorem dX6_turn_1 : decode cX6_turn 1 = .ok (.invokevirtual 73, 3) := by decide +kernel
theorem dX6_turn_4 : decode cX6_turn 4 = .ok (.aload_n 0, 1) := by decide +kernel
theorem dX6_turn_5 : decode cX6_turn 5 = .ok (.aload_n 0, 1) := by decide +kernel
theorem dX6_turn_6 : decode cX6_turn 6 = .ok (.iload_n 1, 1) := by decide +kernel
theorem dX6_turn_7 : decode cX6_turn 7 = .ok (.iload_n 2, 1) := by decide +kernel
theorem dX6_turn_8 : decode cX6_turn 8 = .ok (.ifCond .eq 7, 3) := by decide +kernel
theorem dX6_turn_11 : decode cX6_turn 11 = .ok (.iconst 1, 1) := by decide +kernel
theorem dX6_turn_12 : decode cX6_turn 12 = .ok (.goto 4, 3) := by decide +kernel
theorem dX6_turn_15 : decode cX6_turn 15 = .ok (.iconst 0, 1) := by decide +kernel
theorem dX6_turn_16 : decode cX6_turn 16 = .ok (.invokevirtual 89, 3) := by decide +kernel
theorem dX6_turn_19 : decode cX6_turn 19 = .ok (.invokevirtual 76, 3) := by decide +kernel
theorem dX6_turn_22 : decode cX6_turn 22 = .ok (.ireturn, 1) := by decide +kernel
set_option maxRecDepth 20000 in
theorem ggX6_phase_X6_isOne : GoodIn wsX6_phase wsX6_isOne := goodIn_r _ [6, 7, 8, 5, 9] (by decide +kernel) (by decide +kernel)
set_option maxRecDepth 20000 in
theorem gX6_phase_X6_isOne : GoodIn wsX6_phase (va_wsS RX6 61 yX6_isOne wsX6_isOne) := goodIn_app (goodIn_of _ (by decide +kernel)) ggX6_phase_X6_isOne
set_option maxRecDepth 20000 in
theorem ggX6_phase_X6_in : GoodIn wsX6_phase wsX6_in := goodIn_r _ [9] (by decide +kernel) (by decide +kernel)
set_option maxRecDepth 20000 in
theorem gX6_phase_X6_in : GoodIn wsX6_phase (va_wsS RX6 40 yX6_in wsX6_in) := goodIn_app (goodIn_of _ (by decide +kernel)) ggX6_phase_X6_in
set_option maxRecDepth 20000 in
theorem ggX6_phase_X6_hold : GoodIn wsX6_phase wsX6_hold := goodIn_r _ [13, 14, 2, 24, 25, 26, 27, 28, 29, 30, 31, 32, 33, 34, 35] (by decide +kernel) (by decide +kernel)
set_option maxRecDepth 20000 in
theorem gX6_phase_X6_hold : GoodIn wsX6_phase (wsV RX6 73 RX6 yX6_hold wsX6_hold) := goodIn_app (goodIn_of _ (by decide +kernel)) ggX6_phase_X6_hold
set_option maxRecDepth 20000 in
theorem ggX6_phase_X6_w : GoodIn wsX6_phase wsX6_w := goodIn_r _ [17] (by decide +kernel) (by decide +kernel)
set_option maxRecDepth 20000 in
theorem gX6_phase_X6_w : GoodIn wsX6_phase (va_wsS RX6 36 yX6_w wsX6_w) := goodIn_app (goodIn_of _ (by decide +kernel)) ggX6_phase_X6_w
set_option maxRecDepth 20000 in
theorem ggX6_phase_X6_recorded : GoodIn wsX6_phase wsX6_recorded := goodIn_r _ [21, 22, 23, 14, 24, 25, 26, 27, 28, 29, 30, 31, 32, 33, 34, 35] (by decide +kernel) (by decide +kernel)
set_option maxRecDepth 20000 in
theorem gX6_phase_X6_recorded : GoodIn wsX6_phase (wsV RX6 76 RX6 yX6_recorded wsX6_recorded) := goodIn_app (goodIn_of _ (by decide +kernel)) ggX6_phase_X6_recorded
theorem dX6_phase_0 : decode cX6_phase 0 = .ok (.iload_n 1, 1) := by decide +kernel
theorem dX6_phase_1 : decode cX6_phase 1 = .ok (.invokestatic 61, 3) := by decide +kernel
theorem dX6_phase_4 : decode cX6_phase 4 = .ok (.ifCond .ne 5, 3) := by decide +kernel
theorem dX6_phase_7 : decode cX6_phase 7 = .ok (.iconst (-1), 1) := by decide +kernel
theorem dX6_phase_8 : decode cX6_phase 8 = .ok (.ireturn, 1) := by decide +kernel
theorem dX6_phase_9 : decode cX6_phase 9 = .ok (.iload_n 2, 1) := by decide +kernel
theorem dX6_phase_10 : decode cX6_phase 10 = .ok (.iconst 0, 1) := by decide +kernel
theorem dX6_phase_11 : decode cX6_phase 11 = .ok (.ldc 65, 2) := by decide +kernel
theorem dX6_phase_13 : decode cX6_phase 13 = .ok (.invokestatic 40, 3) := by decide +kernel
theorem dX6_phase_16 : decode cX6_phase 16 = .ok (.ifCond .ne 6, 3) := by decide +kernel
theorem dX6_phase_19 : decode cX6_phase 19 = .ok (.bipush (-2), 2) := by decide +kernel
theorem dX6_phase_21 : decode cX6_phase 21 = .ok (.ireturn, 1) := by decide +kernel
theorem dX6_phase_22 : decode cX6_phase 22 = .ok (.aload_n 0, 1) := by decide +kernel
theorem dX6_phase_23 : decode cX6_phase 23 = .ok (.invokevirtual 73, 3) := by decide +kernel
theorem dX6_phase_26 : decode cX6_phase 26 = .ok (.aload_n 0, 1) := by decide +kernel
theorem dX6_phase_27 : decode cX6_phase 27 = .ok (.getfield 7, 3) := by decide +kernel
theorem dX6_phase_30 : decode cX6_phase 30 = .ok (.iload_n 1, 1) := by decide +kernel
theorem dX6_phase_31 : decode cX6_phase 31 = .ok (.invokestatic 36, 3) := by decide +kernel
theorem dX6_phase_34 : decode cX6_phase 34 = .ok (.iconst 0, 1) := by decide +kernel
theorem dX6_phase_35 : decode cX6_phase 35 = .ok (.iadd, 1) := by decide +kernel
theorem dX6_phase_36 : decode cX6_phase 36 = .ok (.iaload, 1) := by decide +kernel
theorem dX6_phase_37 : decode cX6_phase 37 = .ok (.istore_n 3, 1) := by decide +kernel
theorem dX6_phase_38 : decode cX6_phase 38 = .ok (.aload_n 0, 1) := by decide +kernel
theorem dX6_phase_39 : decode cX6_phase 39 = .ok (.getfield 7, 3) := by decide +kernel
theorem dX6_phase_42 : decode cX6_phase 42 = .ok (.iload_n 1, 1) := by decide +kernel
theorem dX6_phase_43 : decode cX6_phase 43 = .ok (.invokestatic 36, 3) := by decide +kernel
theorem dX6_phase_46 : decode cX6_phase 46 = .ok (.iconst 0, 1) := by decide +kernel
theorem dX6_phase_47 : decode cX6_phase 47 = .ok (.iadd, 1) := by decide +kernel
theorem dX6_phase_48 : decode cX6_phase 48 = .ok (.iload_n 2, 1) := by decide +kernel
theorem dX6_phase_49 : decode cX6_phase 49 = .ok (.iastore, 1) := by decide +kernel
theorem dX6_phase_50 : decode cX6_phase 50 = .ok (.aload_n 0, 1) := by decide +kernel
theorem dX6_phase_51 : decode cX6_phase 51 = .ok (.iload_n 3, 1) := by decide +kernel
theorem dX6_phase_52 : decode cX6_phase 52 = .ok (.invokevirtual 76, 3) := by decide +kernel
theorem dX6_phase_55 : decode cX6_phase 55 = .ok (.ireturn, 1) := by decide +kernel
set_option maxRecDepth 20000 in
theorem ggX6_sweep_X6_hold : GoodIn wsX6_sweep wsX6_hold := goodIn_r _ [5, 6, 7, 28, 29, 30, 31, 32, 33, 34, 35, 36, 37, 38, 39] (by decide +kernel) (by decide +kernel)
set_option maxRecDepth 20000 in
theorem gX6_sweep_X6_hold : GoodIn wsX6_sweep (wsV RX6 73 RX6 yX6_hold wsX6_hold) := goodIn_app (goodIn_of _ (by decide +kernel)) ggX6_sweep_X6_hold
set_option maxRecDepth 20000 in
theorem ggX6_sweep_X6_sweeps : GoodIn wsX6_sweep wsX6_sweeps := goodIn_r _ [11, 12, 7, 13, 14, 4, 15, 16, 17, 18, 19, 20, 21, 28, 29, 30, 31, 32, 33, 34, 35, 36, 37, 38, 39] (by decide +kernel) (by decide +kernel)
set_option maxRecDepth 20000 in
theorem gX6_sweep_X6_sweeps : GoodIn wsX6_sweep (wsV RX6 92 RX6 yX6_sweeps wsX6_sweeps) := goodIn_app (goodIn_of _ (by decide +kernel)) ggX6_sweep_X6_sweeps
set_option maxRecDepth 20000 in
theorem ggX6_sweep_X6_recorded : GoodIn wsX6_sweep wsX6_recorded := goodIn_r _ [25, 26, 27, 6, 28, 29, 30, 31, 32, 33, 34, 35, 36, 37, 38, 39] (by decide +kernel) (by decide +kernel)
set_option maxRecDepth 20000 in
theorem gX6_sweep_X6_recorded : GoodIn wsX6_sweep (wsV RX6 76 RX6 yX6_recorded wsX6_recorded) := goodIn_app (goodIn_of _ (by decide +kernel)) ggX6_sweep_X6_recorded
theorem dX6_sweep_0 : decode cX6_sweep 0 = .ok (.aload_n 0, 1) := by decide +kernel
theorem dX6_sweep_1 : decode cX6_sweep 1 = .ok (.invokevirtual 73, 3) := by decide +kernel
theorem dX6_sweep_4 : decode cX6_sweep 4 = .ok (.aload_n 0, 1) := by decide +kernel
theorem dX6_sweep_5 : decode cX6_sweep 5 = .ok (.aload_n 0, 1) := by decide +kernel
theorem dX6_sweep_6 : decode cX6_sweep 6 = .ok (.iload_n 1, 1) := by decide +kernel
theorem dX6_sweep_7 : decode cX6_sweep 7 = .ok (.iload_n 2, 1) := by decide +kernel
theorem dX6_sweep_8 : decode cX6_sweep 8 = .ok (.iload_n 3, 1) := by decide +kernel
theorem dX6_sweep_9 : decode cX6_sweep 9 = .ok (.invokevirtual 92, 3) := by decide +kernel
theorem dX6_sweep_12 : decode cX6_sweep 12 = .ok (.invokevirtual 76, 3) := by decide +kernel
theorem dX6_sweep_15 : decode cX6_sweep 15 = .ok (.ireturn, 1) := by decide +kernel
set_option maxRecDepth 20000 in
theorem ggX6_make_X6_hold : GoodIn wsX6_make wsX6_hold := goodIn_r _ [5, 6, 7, 43, 44, 45, 46, 47, 48, 49, 50, 51, 52, 53, 54] (by decide +kernel) (by decide +kernel)
set_option maxRecDepth 20000 in
theorem gX6_make_X6_hold : GoodIn wsX6_make (wsV RX6 73 RX6 yX6_hold wsX6_hold) := goodIn_app (goodIn_of _ (by decide +kernel)) ggX6_make_X6_hold
set_option maxRecDepth 20000 in
theorem ggX6_make_X6_makesAll : GoodIn wsX6_make wsX6_makesAll := goodIn_r _ [11, 7, 12, 13, 14, 4, 15, 16, 17, 18, 19, 20, 21, 22, 23, 24, 25, 26, 27, 28, 29, 30, 31, 32, 33, 34, 35, 36, 43, 44, 45, 46, 47, 48, 49, 50, 51, 52, 53, 54] (by decide +kernel) (by decide +kernel)
set_option maxRecDepth 20000 in
theorem gX6_make_X6_makesAll : GoodIn wsX6_make (wsV RX6 96 RX6 yX6_makesAll wsX6_makesAll) := goodIn_app (goodIn_of _ (by decide +kernel)) ggX6_make_X6_makesAll
set_option maxRecDepth 20000 in
theorem ggX6_make_X6_recorded : GoodIn wsX6_make wsX6_recorded := goodIn_r _ [40, 41, 42, 6, 43, 44, 45, 46, 47, 48, 49, 50, 51, 52, 53, 54] (by decide +kernel) (by decide +kernel)
set_option maxRecDepth 20000 in
theorem gX6_make_X6_recorded : GoodIn wsX6_make (wsV RX6 76 RX6 yX6_recorded wsX6_recorded) := goodIn_app (goodIn_of _ (by decide +kernel)) ggX6_make_X6_recorded
theorem dX6_make_0 : decode cX6_make 0 = .ok (.aload_n 0, 1) := by decide +kernel
theorem dX6_make_1 : decode cX6_make 1 = .ok (.invokevirtual 73, 3) := by decide +kernel
theorem dX6_make_4 : decode cX6_make 4 = .ok (.aload_n 0, 1) := by decide +kernel
theorem dX6_make_5 : decode cX6_make 5 = .ok (.aload_n 0, 1) := by decide +kernel
theorem dX6_make_6 : decode cX6_make 6 = .ok (.iload_n 1, 1) := by decide +kernel
theorem dX6_make_7 : decode cX6_make 7 = .ok (.invokevirtual 96, 3) := by decide +kernel
theorem dX6_make_10 : decode cX6_make 10 = .ok (.invokevirtual 76, 3) := by decide +kernel
theorem dX6_make_13 : decode cX6_make 13 = .ok (.ireturn, 1) := by decide +kernel
theorem dX6_isSign_0 : decode cX6_isSign 0 = .ok (.aload_n 0, 1) := by decide +kernel
theorem dX6_isSign_1 : decode cX6_isSign 1 = .ok (.getfield 99, 3) := by decide +kernel
theorem dX6_isSign_4 : decode cX6_isSign 4 = .ok (.aload_n 0, 1) := by decide +kernel
theorem dX6_isSign_5 : decode cX6_isSign 5 = .ok (.getfield 102, 3) := by decide +kernel
theorem dX6_isSign_8 : decode cX6_isSign 8 = .ok (.if_icmp .ge 33, 3) := by decide +kernel
theorem dX6_isSign_11 : decode cX6_isSign 11 = .ok (.aload_n 0, 1) := by decide +kernel
theorem dX6_isSign_12 : decode cX6_isSign 12 = .ok (.getfield 32, 3) := by decide +kernel
theorem dX6_isSign_15 : decode cX6_isSign 15 = .ok (.aload_n 0, 1) := by decide +kernel
theorem dX6_isSign_16 : decode cX6_isSign 16 = .ok (.getfield 99, 3) := by decide +kernel
theorem dX6_isSign_19 : decode cX6_isSign 19 = .ok (.caload, 1) := by decide +kernel
theorem dX6_isSign_20 : decode cX6_isSign 20 = .ok (.iload_n 1, 1) := by decide +kernel
theorem dX6_isSign_21 : decode cX6_isSign 21 = .ok (.if_icmp .lt 20, 3) := by decide +kernel
theorem dX6_isSign_24 : decode cX6_isSign 24 = .ok (.aload_n 0, 1) := by decide +kernel
theorem dX6_isSign_25 : decode cX6_isSign 25 = .ok (.getfield 32, 3) := by decide +kernel
theorem dX6_isSign_28 : decode cX6_isSign 28 = .ok (.aload_n 0, 1) := by decide +kernel
theorem dX6_isSign_29 : decode cX6_isSign 29 = .ok (.getfield 99, 3) := by decide +kernel
theorem dX6_isSign_32 : decode cX6_isSign 32 = .ok (.caload, 1) := by decide +kernel
theorem dX6_isSign_33 : decode cX6_isSign 33 = .ok (.iload_n 2, 1) := by decide +kernel
theorem dX6_isSign_34 : decode cX6_isSign 34 = .ok (.if_icmp .gt 7, 3) := by decide +kernel
theorem dX6_isSign_37 : decode cX6_isSign 37 = .ok (.iconst 1, 1) := by decide +kernel
theorem dX6_isSign_38 : decode cX6_isSign 38 = .ok (.goto 4, 3) := by decide +kernel
theorem dX6_isSign_41 : decode cX6_isSign 41 = .ok (.iconst 0, 1) := by decide +kernel
theorem dX6_isSign_42 : decode cX6_isSign 42 = .ok (.ireturn, 1) := by decide +kernel
set_option maxRecDepth 20000 in
theorem ggX6_accepts_X6_isSign : GoodIn wsX6_accepts wsX6_isSign := goodIn_r _ [6, 1, 7, 8, 9, 10, 11, 12, 13, 14, 15, 16, 17, 18, 19, 20] (by decide +kernel) (by decide +kernel)
set_option maxRecDepth 20000 in
theorem gX6_accepts_X6_isSign : GoodIn wsX6_accepts (wsV RX6 105 RX6 yX6_isSign wsX6_isSign) := goodIn_app (goodIn_of _ (by decide +kernel)) ggX6_accepts_X6_isSign
theorem dX6_accepts_0 : decode cX6_accepts 0 = .ok (.aload_n 0, 1) := by decide +kernel
theorem dX6_accepts_1 : decode cX6_accepts 1 = .ok (.iload_n 1, 1) := by decide +kernel
theorem dX6_accepts_2 : decode cX6_accepts 2 = .ok (.iload_n 1, 1) := by decide +kernel
theorem dX6_accepts_3 : decode cX6_accepts 3 = .ok (.invokevirtual 105, 3) := by decide +kernel
theorem dX6_accepts_6 : decode cX6_accepts 6 = .ok (.istore_n 2, 1) := by decide +kernel
theorem dX6_accepts_7 : decode cX6_accepts 7 = .ok (.aload_n 0, 1) := by decide +kernel
theorem dX6_accepts_8 : decode cX6_accepts 8 = .ok (.dup, 1) := by decide +kernel
theorem dX6_accepts_9 : decode cX6_accepts 9 = .ok (.getfield 99, 3) := by decide +kernel
theorem dX6_accepts_12 : decode cX6_accepts 12 = .ok (.iload_n 2, 1) := by decide +kernel
theorem dX6_accepts_13 : decode cX6_accepts 13 = .ok (.ifCond .eq 7, 3) := by decide +kernel
theorem dX6_accepts_16 : decode cX6_accepts 16 = .ok (.iconst 1, 1) := by decide +kernel
theorem dX6_accepts_17 : decode cX6_accepts 17 = .ok (.goto 4, 3) := by decide +kernel
theorem dX6_accepts_20 : decode cX6_accepts 20 = .ok (.iconst 0, 1) := by decide +kernel
theorem dX6_accepts_21 : decode cX6_accepts 21 = .ok (.iadd, 1) := by decide +kernel
theorem dX6_accepts_22 : decode cX6_accepts 22 = .ok (.putfield 99, 3) := by decide +kernel
theorem dX6_accepts_25 : decode cX6_accepts 25 = .ok (.iload_n 2, 1) := by decide +kernel
theorem dX6_accepts_26 : decode cX6_accepts 26 = .ok (.ireturn, 1) := by decide +kernel
set_option maxRecDepth 20000 in
theorem ggX6_number_X6_isSign : GoodIn wsX6_number wsX6_isSign := goodIn_r _ [9, 4, 10, 3, 11, 12, 13, 14, 15, 16, 17, 18, 19, 20, 21, 22] (by decide +kernel) (by decide +kernel)
set_option maxRecDepth 20000 in
theorem gX6_number_X6_isSign : GoodIn wsX6_number (wsV RX6 105 RX6 yX6_isSign wsX6_isSign) := goodIn_app (goodIn_of _ (by decide +kernel)) ggX6_number_X6_isSign
theorem dX6_number_0 : decode cX6_number 0 = .ok (.iconst 4, 1) := by decide +kernel
theorem dX6_number_1 : decode cX6_number 1 = .ok (.aload_n 0, 1) := by decide +kernel
theorem dX6_number_2 : decode cX6_number 2 = .ok (.getfield 109, 3) := by decide +kernel
theorem dX6_number_5 : decode cX6_number 5 = .ok (.imul, 1) := by decide +kernel
theorem dX6_number_6 : decode cX6_number 6 = .ok (.iload_n 1, 1) := by decide +kernel
theorem dX6_number_7 : decode cX6_number 7 = .ok (.iadd, 1) := by decide +kernel
theorem dX6_number_8 : decode cX6_number 8 = .ok (.istore 4, 2) := by decide +kernel
theorem dX6_number_10 : decode cX6_number 10 = .ok (.aload_n 0, 1) := by decide +kernel
theorem dX6_number_11 : decode cX6_number 11 = .ok (.getfield 29, 3) := by decide +kernel
theorem dX6_number_14 : decode cX6_number 14 = .ok (.iload 4, 2) := by decide +kernel
theorem dX6_number_16 : decode cX6_number 16 = .ok (.iconst 0, 1) := by decide +kernel
theorem dX6_number_17 : decode cX6_number 17 = .ok (.iastore, 1) := by decide +kernel
theorem dX6_number_18 : decode cX6_number 18 = .ok (.aload_n 0, 1) := by decide +kernel
theorem dX6_number_19 : decode cX6_number 19 = .ok (.iload_n 2, 1) := by decide +kernel
theorem dX6_number_20 : decode cX6_number 20 = .ok (.ifCond .ne 8, 3) := by decide +kernel
theorem dX6_number_23 : decode cX6_number 23 = .ok (.bipush 48, 2) := by decide +kernel
theorem dX6_number_25 : decode cX6_number 25 = .ok (.goto 5, 3) := by decide +kernel
theorem dX6_number_28 : decode cX6_number 28 = .ok (.bipush 49, 2) := by decide +kernel
theorem dX6_number_30 : decode cX6_number 30 = .ok (.bipush 57, 2) := by decide +kernel
theorem dX6_number_32 : decode cX6_number 32 = .ok (.invokevirtual 105, 3) := by decide +kernel
theorem dX6_number_35 : decode cX6_number 35 = .ok (.ifCond .ne 5, 3) := by decide +kernel
theorem dX6_number_38 : decode cX6_number 38 = .ok (.iconst 0, 1) := by decide +kernel
theorem dX6_number_39 : decode cX6_number 39 = .ok (.ireturn, 1) := by decide +kernel
theorem dX6_number_40 : decode cX6_number 40 = .ok (.aload_n 0, 1) := by decide +kernel
theorem dX6_number_41 : decode cX6_number 41 = .ok (.getfield 29, 3) := by decide +kernel
theorem dX6_number_44 : decode cX6_number 44 = .ok (.iload 4, 2) := by decide +kernel
theorem dX6_number_46 : decode cX6_number 46 = .ok (.aload_n 0, 1) := by decide +kernel
theorem dX6_number_47 : decode cX6_number 47 = .ok (.getfield 32, 3) := by decide +kernel
theorem dX6_number_50 : decode cX6_number 50 = .ok (.aload_n 0, 1) := by decide +kernel
theorem dX6_number_51 : decode cX6_number 51 = .ok (.getfield 99, 3) := by decide +kernel
theorem dX6_number_54 : decode cX6_number 54 = .ok (.caload, 1) := by decide +kernel
theorem dX6_number_55 : decode cX6_number 55 = .ok (.bipush 48, 2) := by decide +kernel
theorem dX6_number_57 : decode cX6_number 57 = .ok (.isub, 1) := by decide +kernel
theorem dX6_number_58 : decode cX6_number 58 = .ok (.iastore, 1) := by decide +kernel
theorem dX6_number_59 : decode cX6_number 59 = .ok (.aload_n 0, 1) := by decide +kernel
theorem dX6_number_60 : decode cX6_number 60 = .ok (.dup, 1) := by decide +kernel
theorem dX6_number_61 : decode cX6_number 61 = .ok (.getfield 99, 3) := by decide +kernel
theorem dX6_number_64 : decode cX6_number 64 = .ok (.iconst 1, 1) := by decide +kernel
theorem dX6_number_65 : decode cX6_number 65 = .ok (.iadd, 1) := by decide +kernel
theorem dX6_number_66 : decode cX6_number 66 = .ok (.putfield 99, 3) := by decide +kernel
theorem dX6_number_69 : decode cX6_number 69 = .ok (.aload_n 0, 1) := by decide +kernel
theorem dX6_number_70 : decode cX6_number 70 = .ok (.getfield 29, 3) := by decide +kernel
theorem dX6_number_73 : decode cX6_number 73 = .ok (.iload 4, 2) := by decide +kernel
theorem dX6_number_75 : decode cX6_number 75 = .ok (.iaload, 1) := by decide +kernel
theorem dX6_number_76 : decode cX6_number 76 = .ok (.ifCond .le 84, 3) := by decide +kernel
theorem dX6_number_79 : decode cX6_number 79 = .ok (.aload_n 0, 1) := by decide +kernel
theorem dX6_number_80 : decode cX6_number 80 = .ok (.bipush 48, 2) := by decide +kernel
theorem dX6_number_82 : decode cX6_number 82 = .ok (.bipush 57, 2) := by decide +kernel
theorem dX6_number_84 : decode cX6_number 84 = .ok (.invokevirtual 105, 3) := by decide +kernel
theorem dX6_number_87 : decode cX6_number 87 = .ok (.ifCond .eq 73, 3) := by decide +kernel
theorem dX6_number_90 : decode cX6_number 90 = .ok (.bipush 10, 2) := by decide +kernel
theorem dX6_number_92 : decode cX6_number 92 = .ok (.aload_n 0, 1) := by decide +kernel
theorem dX6_number_93 : decode cX6_number 93 = .ok (.getfield 29, 3) := by decide +kernel
theorem dX6_number_96 : decode cX6_number 96 = .ok (.iload 4, 2) := by decide +kernel
theorem dX6_number_98 : decode cX6_number 98 = .ok (.iaload, 1) := by decide +kernel
theorem dX6_number_99 : decode cX6_number 99 = .ok (.imul, 1) := by decide +kernel
theorem dX6_number_100 : decode cX6_number 100 = .ok (.aload_n 0, 1) := by decide +kernel
theorem dX6_number_101 : decode cX6_number 101 = .ok (.getfield 32, 3) := by decide +kernel
theorem dX6_number_104 : decode cX6_number 104 = .ok (.aload_n 0, 1) := by decide +kernel
theorem dX6_number_105 : decode cX6_number 105 = .ok (.getfield 99, 3) := by decide +kernel
theorem dX6_number_108 : decode cX6_number 108 = .ok (.caload, 1) := by decide +kernel
theorem dX6_number_109 : decode cX6_number 109 = .ok (.iadd, 1) := by decide +kernel
theorem dX6_number_110 : decode cX6_number 110 = .ok (.bipush 48, 2) := by decide +kernel
theorem dX6_number_112 : decode cX6_number 112 = .ok (.isub, 1) := by decide +kernel
theorem dX6_number_113 : decode cX6_number 113 = .ok (.iload_n 3, 1) := by decide +kernel
theorem dX6_number_114 : decode cX6_number 114 = .ok (.if_icmp .gt 46, 3) := by decide +kernel
theorem dX6_number_117 : decode cX6_number 117 = .ok (.aload_n 0, 1) := by decide +kernel
theorem dX6_number_118 : decode cX6_number 118 = .ok (.getfield 29, 3) := by decide +kernel
theorem dX6_number_121 : decode cX6_number 121 = .ok (.iload 4, 2) := by decide +kernel
theorem dX6_number_123 : decode cX6_number 123 = .ok (.bipush 10, 2) := by decide +kernel
theorem dX6_number_125 : decode cX6_number 125 = .ok (.aload_n 0, 1) := by decide +kernel
theorem dX6_number_126 : decode cX6_number 126 = .ok (.getfield 29, 3) := by decide +kernel
theorem dX6_number_129 : decode cX6_number 129 = .ok (.iload 4, 2) := by decide +kernel
theorem dX6_number_131 : decode cX6_number 131 = .ok (.iaload, 1) := by decide +kernel
theorem dX6_number_132 : decode cX6_number 132 = .ok (.imul, 1) := by decide +kernel
theorem dX6_number_133 : decode cX6_number 133 = .ok (.aload_n 0, 1) := by decide +kernel
theorem dX6_number_134 : decode cX6_number 134 = .ok (.getfield 32, 3) := by decide +kernel
theorem dX6_number_137 : decode cX6_number 137 = .ok (.aload_n 0, 1) := by decide +kernel
theorem dX6_number_138 : decode cX6_number 138 = .ok (.getfield 99, 3) := by decide +kernel
theorem dX6_number_141 : decode cX6_number 141 = .ok (.caload, 1) := by decide +kernel
theorem dX6_number_142 : decode cX6_number 142 = .ok (.iadd, 1) := by decide +kernel
theorem dX6_number_143 : decode cX6_number 143 = .ok (.bipush 48, 2) := by decide +kernel
theorem dX6_number_145 : decode cX6_number 145 = .ok (.isub, 1) := by decide +kernel
theorem dX6_number_146 : decode cX6_number 146 = .ok (.iastore, 1) := by decide +kernel
theorem dX6_number_147 : decode cX6_number 147 = .ok (.aload_n 0, 1) := by decide +kernel
theorem dX6_number_148 : decode cX6_number 148 = .ok (.dup, 1) := by decide +kernel
theorem dX6_number_149 : decode cX6_number 149 = .ok (.getfield 99, 3) := by decide +kernel
theorem dX6_number_152 : decode cX6_number 152 = .ok (.iconst 1, 1) := by decide +kernel
theorem dX6_number_153 : decode cX6_number 153 = .ok (.iadd, 1) := by decide +kernel
theorem dX6_number_154 : decode cX6_number 154 = .ok (.putfield 99, 3) := by decide +kernel
theorem dX6_number_157 : decode cX6_number 157 = .ok (.goto (-88), 3) := by decide +kernel
theorem dX6_number_160 : decode cX6_number 160 = .ok (.iconst 1, 1) := by decide +kernel
theorem dX6_number_161 : decode cX6_number 161 = .ok (.ireturn, 1) := by decide +kernel
set_option maxRecDepth 20000 in
theorem ggX6_digit_X6_isSign : GoodIn wsX6_digit wsX6_isSign := goodIn_r _ [9, 4, 10, 3, 11, 12, 13, 14, 15, 16, 17, 18, 19, 20, 21, 22] (by decide +kernel) (by decide +kernel)
set_option maxRecDepth 20000 in
theorem gX6_digit_X6_isSign : GoodIn wsX6_digit (wsV RX6 105 RX6 yX6_isSign wsX6_isSign) := goodIn_app (goodIn_of _ (by decide +kernel)) ggX6_digit_X6_isSign
theorem dX6_digit_0 : decode cX6_digit 0 = .ok (.aload_n 0, 1) := by decide +kernel
theorem dX6_digit_1 : decode cX6_digit 1 = .ok (.bipush 48, 2) := by decide +kernel
theorem dX6_digit_3 : decode cX6_digit 3 = .ok (.bipush 51, 2) := by decide +kernel
theorem dX6_digit_5 : decode cX6_digit 5 = .ok (.invokevirtual 105, 3) := by decide +kernel
theorem dX6_digit_8 : decode cX6_digit 8 = .ok (.istore_n 2, 1) := by decide +kernel
theorem dX6_digit_9 : decode cX6_digit 9 = .ok (.aload_n 0, 1) := by decide +kernel
theorem dX6_digit_10 : decode cX6_digit 10 = .ok (.getfield 29, 3) := by decide +kernel
theorem dX6_digit_13 : decode cX6_digit 13 = .ok (.iconst 4, 1) := by decide +kernel
theorem dX6_digit_14 : decode cX6_digit 14 = .ok (.aload_n 0, 1) := by decide +kernel
theorem dX6_digit_15 : decode cX6_digit 15 = .ok (.getfield 109, 3) := by decide +kernel
theorem dX6_digit_18 : decode cX6_digit 18 = .ok (.imul, 1) := by decide +kernel
theorem dX6_digit_19 : decode cX6_digit 19 = .ok (.iload_n 1, 1) := by decide +kernel
theorem dX6_digit_20 : decode cX6_digit 20 = .ok (.iadd, 1) := by decide +kernel
theorem dX6_digit_21 : decode cX6_digit 21 = .ok (.iload_n 2, 1) := by decide +kernel
theorem dX6_digit_22 : decode cX6_digit 22 = .ok (.ifCond .eq 18, 3) := by decide +kernel
theorem dX6_digit_25 : decode cX6_digit 25 = .ok (.aload_n 0, 1) := by decide +kernel
theorem dX6_digit_26 : decode cX6_digit 26 = .ok (.getfield 32, 3) := by decide +kernel
theorem dX6_digit_29 : decode cX6_digit 29 = .ok (.aload_n 0, 1) := by decide +kernel
theorem dX6_digit_30 : decode cX6_digit 30 = .ok (.getfield 99, 3) := by decide +kernel
theorem dX6_digit_33 : decode cX6_digit 33 = .ok (.caload, 1) := by decide +kernel
theorem dX6_digit_34 : decode cX6_digit 34 = .ok (.bipush 48, 2) := by decide +kernel
theorem dX6_digit_36 : decode cX6_digit 36 = .ok (.isub, 1) := by decide +kernel
theorem dX6_digit_37 : decode cX6_digit 37 = .ok (.goto 4, 3) := by decide +kernel
theorem dX6_digit_40 : decode cX6_digit 40 = .ok (.iconst 0, 1) := by decide +kernel
theorem dX6_digit_41 : decode cX6_digit 41 = .ok (.iastore, 1) := by decide +kernel
theorem dX6_digit_42 : decode cX6_digit 42 = .ok (.aload_n 0, 1) := by decide +kernel
theorem dX6_digit_43 : decode cX6_digit 43 = .ok (.dup, 1) := by decide +kernel
theorem dX6_digit_44 : decode cX6_digit 44 = .ok (.getfield 99, 3) := by decide +kernel
theorem dX6_digit_47 : decode cX6_digit 47 = .ok (.iload_n 2, 1) := by decide +kernel
theorem dX6_digit_48 : decode cX6_digit 48 = .ok (.ifCond .eq 7, 3) := by decide +kernel
theorem dX6_digit_51 : decode cX6_digit 51 = .ok (.iconst 1, 1) := by decide +kernel
theorem dX6_digit_52 : decode cX6_digit 52 = .ok (.goto 4, 3) := by decide +kernel
theorem dX6_digit_55 : decode cX6_digit 55 = .ok (.iconst 0, 1) := by decide +kernel
theorem dX6_digit_56 : decode cX6_digit 56 = .ok (.iadd, 1) := by decide +kernel
theorem dX6_digit_57 : decode cX6_digit 57 = .ok (.putfield 99, 3) := by decide +kernel
theorem dX6_digit_60 : decode cX6_digit 60 = .ok (.iload_n 2, 1) := by decide +kernel
theorem dX6_digit_61 : decode cX6_digit 61 = .ok (.ireturn, 1) := by decide +kernel
set_option maxRecDepth 20000 in
theorem ggX6_readsRest_X6_accepts : GoodIn wsX6_readsRest wsX6_accepts := goodIn_r _ [11, 3, 12, 13, 14, 10, 15, 4, 5, 24, 25, 26, 27, 28, 29, 30, 31, 32, 33, 34, 35] (by decide +kernel) (by decide +kernel)
set_option maxRecDepth 20000 in
theorem gX6_readsRest_X6_accepts : GoodIn wsX6_readsRest (wsV RX6 112 RX6 yX6_accepts wsX6_accepts) := goodIn_app (goodIn_of _ (by decide +kernel)) ggX6_readsRest_X6_accepts
set_option maxRecDepth 20000 in
theorem ggX6_readsRest_X6_number : GoodIn wsX6_readsRest wsX6_number := goodIn_r _ [19, 2, 1, 5, 3, 12, 13, 14, 10, 15, 4, 24, 25, 26, 27, 28, 29, 30, 31, 32, 33, 34, 35] (by decide +kernel) (by decide +kernel)
set_option maxRecDepth 20000 in
theorem gX6_readsRest_X6_number : GoodIn wsX6_readsRest (wsV RX6 116 RX6 yX6_number wsX6_number) := goodIn_app (goodIn_of _ (by decide +kernel)) ggX6_readsRest_X6_number
set_option maxRecDepth 20000 in
theorem ggX6_readsRest_X6_digit : GoodIn wsX6_readsRest wsX6_digit := goodIn_r _ [23, 1, 2, 5, 3, 12, 13, 14, 10, 15, 4, 24, 25, 26, 27, 28, 29, 30, 31, 32, 33, 34, 35] (by decide +kernel) (by decide +kernel)
set_option maxRecDepth 20000 in
theorem gX6_readsRest_X6_digit : GoodIn wsX6_readsRest (wsV RX6 119 RX6 yX6_digit wsX6_digit) := goodIn_app (goodIn_of _ (by decide +kernel)) ggX6_readsRest_X6_digit
theorem dX6_readsRest_0 : decode cX6_readsRest 0 = .ok (.aload_n 0, 1) := by decide +kernel
theorem dX6_readsRest_1 : decode cX6_readsRest 1 = .ok (.getfield 29, 3) := by decide +kernel
theorem dX6_readsRest_4 : decode cX6_readsRest 4 = .ok (.iconst 4, 1) := by decide +kernel
theorem dX6_readsRest_5 : decode cX6_readsRest 5 = .ok (.aload_n 0, 1) := by decide +kernel
theorem dX6_readsRest_6 : decode cX6_readsRest 6 = .ok (.getfield 109, 3) := by decide +kernel
theorem dX6_readsRest_9 : decode cX6_readsRest 9 = .ok (.imul, 1) := by decide +kernel
theorem dX6_readsRest_10 : decode cX6_readsRest 10 = .ok (.aload_n 0, 1) := by decide +kernel
theorem dX6_readsRest_11 : decode cX6_readsRest 11 = .ok (.getfield 99, 3) := by decide +kernel
theorem dX6_readsRest_14 : decode cX6_readsRest 14 = .ok (.aload_n 0, 1) := by decide +kernel
theorem dX6_readsRest_15 : decode cX6_readsRest 15 = .ok (.getfield 102, 3) := by decide +kernel
theorem dX6_readsRest_18 : decode cX6_readsRest 18 = .ok (.if_icmp .ge 15, 3) := by decide +kernel
theorem dX6_readsRest_21 : decode cX6_readsRest 21 = .ok (.aload_n 0, 1) := by decide +kernel
theorem dX6_readsRest_22 : decode cX6_readsRest 22 = .ok (.getfield 32, 3) := by decide +kernel
theorem dX6_readsRest_25 : decode cX6_readsRest 25 = .ok (.aload_n 0, 1) := by decide +kernel
theorem dX6_readsRest_26 : decode cX6_readsRest 26 = .ok (.getfield 99, 3) := by decide +kernel
theorem dX6_readsRest_29 : decode cX6_readsRest 29 = .ok (.caload, 1) := by decide +kernel
theorem dX6_readsRest_30 : decode cX6_readsRest 30 = .ok (.goto 4, 3) := by decide +kernel
theorem dX6_readsRest_33 : decode cX6_readsRest 33 = .ok (.iconst 0, 1) := by decide +kernel
theorem dX6_readsRest_34 : decode cX6_readsRest 34 = .ok (.iastore, 1) := by decide +kernel
theorem dX6_readsRest_35 : decode cX6_readsRest 35 = .ok (.aload_n 0, 1) := by decide +kernel
theorem dX6_readsRest_36 : decode cX6_readsRest 36 = .ok (.bipush 115, 2) := by decide +kernel
theorem dX6_readsRest_38 : decode cX6_readsRest 38 = .ok (.invokevirtual 112, 3) := by decide +kernel
theorem dX6_readsRest_41 : decode cX6_readsRest 41 = .ok (.ifCond .eq 12, 3) := by decide +kernel
theorem dX6_readsRest_44 : decode cX6_readsRest 44 = .ok (.aload_n 0, 1) := by decide +kernel
theorem dX6_readsRest_45 : decode cX6_readsRest 45 = .ok (.iconst 2, 1) := by decide +kernel
theorem dX6_readsRest_46 : decode cX6_readsRest 46 = .ok (.iconst 0, 1) := by decide +kernel
theorem dX6_readsRest_47 : decode cX6_readsRest 47 = .ok (.ldc 65, 2) := by decide +kernel
theorem dX6_readsRest_49 : decode cX6_readsRest 49 = .ok (.invokevirtual 116, 3) := by decide +kernel
theorem dX6_readsRest_52 : decode cX6_readsRest 52 = .ok (.ireturn, 1) := by decide +kernel
theorem dX6_readsRest_53 : decode cX6_readsRest 53 = .ok (.aload_n 0, 1) := by decide +kernel
theorem dX6_readsRest_54 : decode cX6_readsRest 54 = .ok (.bipush 116, 2) := by decide +kernel
theorem dX6_readsRest_56 : decode cX6_readsRest 56 = .ok (.invokevirtual 112, 3) := by decide +kernel
theorem dX6_readsRest_59 : decode cX6_readsRest 59 = .ok (.ifCond .eq 9, 3) := by decide +kernel
theorem dX6_readsRest_62 : decode cX6_readsRest 62 = .ok (.aload_n 0, 1) := by decide +kernel
theorem dX6_readsRest_63 : decode cX6_readsRest 63 = .ok (.iconst 2, 1) := by decide +kernel
theorem dX6_readsRest_64 : decode cX6_readsRest 64 = .ok (.invokevirtual 119, 3) := by decide +kernel
theorem dX6_readsRest_67 : decode cX6_readsRest 67 = .ok (.ireturn, 1) := by decide +kernel
theorem dX6_readsRest_68 : decode cX6_readsRest 68 = .ok (.aload_n 0, 1) := by decide +kernel
theorem dX6_readsRest_69 : decode cX6_readsRest 69 = .ok (.bipush 118, 2) := by decide +kernel
theorem dX6_readsRest_71 : decode cX6_readsRest 71 = .ok (.invokevirtual 112, 3) := by decide +kernel
theorem dX6_readsRest_74 : decode cX6_readsRest 74 = .ok (.ifCond .eq 12, 3) := by decide +kernel
theorem dX6_readsRest_77 : decode cX6_readsRest 77 = .ok (.aload_n 0, 1) := by decide +kernel
theorem dX6_readsRest_78 : decode cX6_readsRest 78 = .ok (.iconst 2, 1) := by decide +kernel
theorem dX6_readsRest_79 : decode cX6_readsRest 79 = .ok (.iconst 0, 1) := by decide +kernel
theorem dX6_readsRest_80 : decode cX6_readsRest 80 = .ok (.bipush 16, 2) := by decide +kernel
theorem dX6_readsRest_82 : decode cX6_readsRest 82 = .ok (.invokevirtual 116, 3) := by decide +kernel
theorem dX6_readsRest_85 : decode cX6_readsRest 85 = .ok (.ireturn, 1) := by decide +kernel
theorem dX6_readsRest_86 : decode cX6_readsRest 86 = .ok (.aload_n 0, 1) := by decide +kernel
theorem dX6_readsRest_87 : decode cX6_readsRest 87 = .ok (.bipush 62, 2) := by decide +kernel
theorem dX6_readsRest_89 : decode cX6_readsRest 89 = .ok (.invokevirtual 112, 3) := by decide +kernel
theorem dX6_readsRest_92 : decode cX6_readsRest 92 = .ok (.ifCond .eq 41, 3) := by decide +kernel
theorem dX6_readsRest_95 : decode cX6_readsRest 95 = .ok (.aload_n 0, 1) := by decide +kernel
theorem dX6_readsRest_96 : decode cX6_readsRest 96 = .ok (.iconst 2, 1) := by decide +kernel
theorem dX6_readsRest_97 : decode cX6_readsRest 97 = .ok (.iconst 0, 1) := by decide +kernel
theorem dX6_readsRest_98 : decode cX6_readsRest 98 = .ok (.ldc 65, 2) := by decide +kernel
theorem dX6_readsRest_100 : decode cX6_readsRest 100 = .ok (.invokevirtual 116, 3) := by decide +kernel
theorem dX6_readsRest_103 : decode cX6_readsRest 103 = .ok (.ifCond .eq 28, 3) := by decide +kernel
theorem dX6_readsRest_106 : decode cX6_readsRest 106 = .ok (.aload_n 0, 1) := by decide +kernel
theorem dX6_readsRest_107 : decode cX6_readsRest 107 = .ok (.bipush 58, 2) := by decide +kernel
theorem dX6_readsRest_109 : decode cX6_readsRest 109 = .ok (.invokevirtual 112, 3) := by decide +kernel
theorem dX6_readsRest_112 : decode cX6_readsRest 112 = .ok (.ifCond .eq 19, 3) := by decide +kernel
theorem dX6_readsRest_115 : decode cX6_readsRest 115 = .ok (.aload_n 0, 1) := by decide +kernel
theorem dX6_readsRest_116 : decode cX6_readsRest 116 = .ok (.iconst 3, 1) := by decide +kernel
theorem dX6_readsRest_117 : decode cX6_readsRest 117 = .ok (.iconst 1, 1) := by decide +kernel
theorem dX6_readsRest_118 : decode cX6_readsRest 118 = .ok (.sipush 999, 3) := by decide +kernel
theorem dX6_readsRest_121 : decode cX6_readsRest 121 = .ok (.invokevirtual 116, 3) := by decide +kernel
theorem dX6_readsRest_124 : decode cX6_readsRest 124 = .ok (.ifCond .eq 7, 3) := by decide +kernel
theorem dX6_readsRest_127 : decode cX6_readsRest 127 = .ok (.iconst 1, 1) := by decide +kernel
theorem dX6_readsRest_128 : decode cX6_readsRest 128 = .ok (.goto 4, 3) := by decide +kernel
theorem dX6_readsRest_131 : decode cX6_readsRest 131 = .ok (.iconst 0, 1) := by decide +kernel
theorem dX6_readsRest_132 : decode cX6_readsRest 132 = .ok (.ireturn, 1) := by decide +kernel
theorem dX6_readsRest_133 : decode cX6_readsRest 133 = .ok (.aload_n 0, 1) := by decide +kernel
theorem dX6_readsRest_134 : decode cX6_readsRest 134 = .ok (.bipush 111, 2) := by decide +kernel
theorem dX6_readsRest_136 : decode cX6_readsRest 136 = .ok (.invokevirtual 112, 3) := by decide +kernel
theorem dX6_readsRest_139 : decode cX6_readsRest 139 = .ok (.ireturn, 1) := by decide +kernel
set_option maxRecDepth 20000 in
theorem ggX6_readsOrder_X6_accepts : GoodIn wsX6_readsOrder wsX6_accepts := goodIn_r _ [7, 8, 9, 10, 11, 6, 12, 13, 14, 28, 29, 30, 31, 32, 33, 34, 35, 36, 37, 38, 39] (by decide +kernel) (by decide +kernel)
set_option maxRecDepth 20000 in
theorem gX6_readsOrder_X6_accepts : GoodIn wsX6_readsOrder (wsV RX6 112 RX6 yX6_accepts wsX6_accepts) := goodIn_app (goodIn_of _ (by decide +kernel)) ggX6_readsOrder_X6_accepts
set_option maxRecDepth 20000 in
theorem ggX6_readsOrder_X6_number : GoodIn wsX6_readsOrder wsX6_number := goodIn_r _ [18, 2, 1, 14, 8, 9, 10, 11, 6, 12, 13, 28, 29, 30, 31, 32, 33, 34, 35, 36, 37, 38, 39] (by decide +kernel) (by decide +kernel)
set_option maxRecDepth 20000 in
theorem gX6_readsOrder_X6_number : GoodIn wsX6_readsOrder (wsV RX6 116 RX6 yX6_number wsX6_number) := goodIn_app (goodIn_of _ (by decide +kernel)) ggX6_readsOrder_X6_number
set_option maxRecDepth 20000 in
theorem ggX6_readsOrder_X6_digit : GoodIn wsX6_readsOrder wsX6_digit := goodIn_r _ [22, 1, 2, 14, 8, 9, 10, 11, 6, 12, 13, 28, 29, 30, 31, 32, 33, 34, 35, 36, 37, 38, 39] (by decide +kernel) (by decide +kernel)
set_option maxRecDepth 20000 in
theorem gX6_readsOrder_X6_digit : GoodIn wsX6_readsOrder (wsV RX6 119 RX6 yX6_digit wsX6_digit) := goodIn_app (goodIn_of _ (by decide +kernel)) ggX6_readsOrder_X6_digit
set_option maxRecDepth 20000 in
theorem ggX6_readsOrder_X6_readsRest : GoodIn wsX6_readsOrder wsX6_readsRest := goodIn_r _ [26, 1, 2, 8, 13, 14, 27, 3, 4, 5, 6, 7, 9, 10, 11, 12, 15, 16, 17, 18, 19, 20, 21, 22, 28, 29, 30, 31, 32, 33, 34, 35, 36, 37, 38, 39] (by decide +kernel) (by decide +kernel)
set_option maxRecDepth 20000 in
theorem gX6_readsOrder_X6_readsRest : GoodIn wsX6_readsOrder (wsV RX6 122 RX6 yX6_readsRest wsX6_readsRest) := goodIn_app (goodIn_of _ (by decide +kernel)) ggX6_readsOrder_X6_readsRest
theorem dX6_readsOrder_0 : decode cX6_readsOrder 0 = .ok (.aload_n 0, 1) := by decide +kernel
theorem dX6_readsOrder_1 : decode cX6_readsOrder 1 = .ok (.bipush 46, 2) := by decide +kernel
theorem dX6_readsOrder_3 : decode cX6_readsOrder 3 = .ok (.invokevirtual 112, 3) := by decide +kernel
theorem dX6_readsOrder_6 : decode cX6_readsOrder 6 = .ok (.ifCond .eq 29, 3) := by decide +kernel
theorem dX6_readsOrder_9 : decode cX6_readsOrder 9 = .ok (.aload_n 0, 1) := by decide +kernel
theorem dX6_readsOrder_10 : decode cX6_readsOrder 10 = .ok (.getfield 29, 3) := by decide +kernel
theorem dX6_readsOrder_13 : decode cX6_readsOrder 13 = .ok (.iconst 4, 1) := by decide +kernel
theorem dX6_readsOrder_14 : decode cX6_readsOrder 14 = .ok (.aload_n 0, 1) := by decide +kernel
theorem dX6_readsOrder_15 : decode cX6_readsOrder 15 = .ok (.getfield 109, 3) := by decide +kernel
theorem dX6_readsOrder_18 : decode cX6_readsOrder 18 = .ok (.imul, 1) := by decide +kernel
theorem dX6_readsOrder_19 : decode cX6_readsOrder 19 = .ok (.bipush 46, 2) := by decide +kernel
theorem dX6_readsOrder_21 : decode cX6_readsOrder 21 = .ok (.iastore, 1) := by decide +kernel
theorem dX6_readsOrder_22 : decode cX6_readsOrder 22 = .ok (.aload_n 0, 1) := by decide +kernel
theorem dX6_readsOrder_23 : decode cX6_readsOrder 23 = .ok (.iconst 2, 1) := by decide +kernel
theorem dX6_readsOrder_24 : decode cX6_readsOrder 24 = .ok (.iconst 1, 1) := by decide +kernel
theorem dX6_readsOrder_25 : decode cX6_readsOrder 25 = .ok (.sipush 999, 3) := by decide +kernel
theorem dX6_readsOrder_28 : decode cX6_readsOrder 28 = .ok (.invokevirtual 116, 3) := by decide +kernel
theorem dX6_readsOrder_31 : decode cX6_readsOrder 31 = .ok (.istore_n 1, 1) := by decide +kernel
theorem dX6_readsOrder_32 : decode cX6_readsOrder 32 = .ok (.goto 24, 3) := by decide +kernel
theorem dX6_readsOrder_35 : decode cX6_readsOrder 35 = .ok (.aload_n 0, 1) := by decide +kernel
theorem dX6_readsOrder_36 : decode cX6_readsOrder 36 = .ok (.iconst 1, 1) := by decide +kernel
theorem dX6_readsOrder_37 : decode cX6_readsOrder 37 = .ok (.invokevirtual 119, 3) := by decide +kernel
theorem dX6_readsOrder_40 : decode cX6_readsOrder 40 = .ok (.ifCond .eq 14, 3) := by decide +kernel
theorem dX6_readsOrder_43 : decode cX6_readsOrder 43 = .ok (.aload_n 0, 1) := by decide +kernel
theorem dX6_readsOrder_44 : decode cX6_readsOrder 44 = .ok (.invokevirtual 122, 3) := by decide +kernel
theorem dX6_readsOrder_47 : decode cX6_readsOrder 47 = .ok (.ifCond .eq 7, 3) := by decide +kernel
theorem dX6_readsOrder_50 : decode cX6_readsOrder 50 = .ok (.iconst 1, 1) := by decide +kernel
theorem dX6_readsOrder_51 : decode cX6_readsOrder 51 = .ok (.goto 4, 3) := by decide +kernel
theorem dX6_readsOrder_54 : decode cX6_readsOrder 54 = .ok (.iconst 0, 1) := by decide +kernel
theorem dX6_readsOrder_55 : decode cX6_readsOrder 55 = .ok (.istore_n 1, 1) := by decide +kernel
theorem dX6_readsOrder_56 : decode cX6_readsOrder 56 = .ok (.aload_n 0, 1) := by decide +kernel
theorem dX6_readsOrder_57 : decode cX6_readsOrder 57 = .ok (.dup, 1) := by decide +kernel
theorem dX6_readsOrder_58 : decode cX6_readsOrder 58 = .ok (.getfield 109, 3) := by decide +kernel
theorem dX6_readsOrder_61 : decode cX6_readsOrder 61 = .ok (.iload_n 1, 1) := by decide +kernel
theorem dX6_readsOrder_62 : decode cX6_readsOrder 62 = .ok (.ifCond .eq 7, 3) := by decide +kernel
theorem dX6_readsOrder_65 : decode cX6_readsOrder 65 = .ok (.iconst 1, 1) := by decide +kernel
theorem dX6_readsOrder_66 : decode cX6_readsOrder 66 = .ok (.goto 4, 3) := by decide +kernel
theorem dX6_readsOrder_69 : decode cX6_readsOrder 69 = .ok (.iconst 0, 1) := by decide +kernel
theorem dX6_readsOrder_70 : decode cX6_readsOrder 70 = .ok (.iadd, 1) := by decide +kernel
theorem dX6_readsOrder_71 : decode cX6_readsOrder 71 = .ok (.putfield 109, 3) := by decide +kernel
theorem dX6_readsOrder_74 : decode cX6_readsOrder 74 = .ok (.iload_n 1, 1) := by decide +kernel
theorem dX6_readsOrder_75 : decode cX6_readsOrder 75 = .ok (.ireturn, 1) := by decide +kernel
set_option maxRecDepth 20000 in
theorem ggX6_faultOf_X6_readsOrder : GoodIn wsX6_faultOf wsX6_readsOrder := goodIn_r _ [8, 9, 2, 10, 11, 12, 7, 13, 1, 14, 15, 16, 17, 3, 18, 19, 20, 21, 22, 23, 24, 25, 26, 27, 28, 29, 30, 31, 32, 33, 34, 35, 36, 37, 38, 39, 40, 41, 42, 43] (by decide +kernel) (by decide +kernel)
set_option maxRecDepth 20000 in
theorem gX6_faultOf_X6_readsOrder : GoodIn wsX6_faultOf (wsV RX6 126 RX6 yX6_readsOrder wsX6_readsOrder) := goodIn_app (goodIn_of _ (by decide +kernel)) ggX6_faultOf_X6_readsOrder
set_option maxRecDepth 20000 in
theorem ggX6_faultOf_X6_accepts : GoodIn wsX6_faultOf wsX6_accepts := goodIn_r _ [13, 1, 14, 15, 16, 7, 17, 3, 18, 32, 33, 34, 35, 36, 37, 38, 39, 40, 41, 42, 43] (by decide +kernel) (by decide +kernel)
set_option maxRecDepth 20000 in
theorem gX6_faultOf_X6_accepts : GoodIn wsX6_faultOf (wsV RX6 112 RX6 yX6_accepts wsX6_accepts) := goodIn_app (goodIn_of _ (by decide +kernel)) ggX6_faultOf_X6_accepts
theorem dX6_faultOf_0 : decode cX6_faultOf 0 = .ok (.aload_n 0, 1) := by decide +kernel
theorem dX6_faultOf_1 : decode cX6_faultOf 1 = .ok (.iconst 0, 1) := by decide +kernel
theorem dX6_faultOf_2 : decode cX6_faultOf 2 = .ok (.putfield 99, 3) := by decide +kernel
theorem dX6_faultOf_5 : decode cX6_faultOf 5 = .ok (.aload_n 0, 1) := by decide +kernel
theorem dX6_faultOf_6 : decode cX6_faultOf 6 = .ok (.iconst 0, 1) := by decide +kernel
theorem dX6_faultOf_7 : decode cX6_faultOf 7 = .ok (.putfield 109, 3) := by decide +kernel
theorem dX6_faultOf_10 : decode cX6_faultOf 10 = .ok (.aload_n 0, 1) := by decide +kernel
theorem dX6_faultOf_11 : decode cX6_faultOf 11 = .ok (.invokevirtual 126, 3) := by decide +kernel
theorem dX6_faultOf_14 : decode cX6_faultOf 14 = .ok (.istore_n 1, 1) := by decide +kernel
theorem dX6_faultOf_15 : decode cX6_faultOf 15 = .ok (.iload_n 1, 1) := by decide +kernel
theorem dX6_faultOf_16 : decode cX6_faultOf 16 = .ok (.ifCond .eq 39, 3) := by decide +kernel
theorem dX6_faultOf_19 : decode cX6_faultOf 19 = .ok (.aload_n 0, 1) := by decide +kernel
theorem dX6_faultOf_20 : decode cX6_faultOf 20 = .ok (.getfield 99, 3) := by decide +kernel
theorem dX6_faultOf_23 : decode cX6_faultOf 23 = .ok (.aload_n 0, 1) := by decide +kernel
theorem dX6_faultOf_24 : decode cX6_faultOf 24 = .ok (.getfield 102, 3) := by decide +kernel
theorem dX6_faultOf_27 : decode cX6_faultOf 27 = .ok (.if_icmp .ge 28, 3) := by decide +kernel
theorem dX6_faultOf_30 : decode cX6_faultOf 30 = .ok (.aload_n 0, 1) := by decide +kernel
theorem dX6_faultOf_31 : decode cX6_faultOf 31 = .ok (.bipush 59, 2) := by decide +kernel
theorem dX6_faultOf_33 : decode cX6_faultOf 33 = .ok (.invokevirtual 112, 3) := by decide +kernel
theorem dX6_faultOf_36 : decode cX6_faultOf 36 = .ok (.ifCond .eq 14, 3) := by decide +kernel
theorem dX6_faultOf_39 : decode cX6_faultOf 39 = .ok (.aload_n 0, 1) := by decide +kernel
theorem dX6_faultOf_40 : decode cX6_faultOf 40 = .ok (.invokevirtual 126, 3) := by decide +kernel
theorem dX6_faultOf_43 : decode cX6_faultOf 43 = .ok (.ifCond .eq 7, 3) := by decide +kernel
theorem dX6_faultOf_46 : decode cX6_faultOf 46 = .ok (.iconst 1, 1) := by decide +kernel
theorem dX6_faultOf_47 : decode cX6_faultOf 47 = .ok (.goto 4, 3) := by decide +kernel
theorem dX6_faultOf_50 : decode cX6_faultOf 50 = .ok (.iconst 0, 1) := by decide +kernel
theorem dX6_faultOf_51 : decode cX6_faultOf 51 = .ok (.istore_n 1, 1) := by decide +kernel
theorem dX6_faultOf_52 : decode cX6_faultOf 52 = .ok (.goto (-37), 3) := by decide +kernel
theorem dX6_faultOf_55 : decode cX6_faultOf 55 = .ok (.iload_n 1, 1) := by decide +kernel
theorem dX6_faultOf_56 : decode cX6_faultOf 56 = .ok (.ifCond .eq 7, 3) := by decide +kernel
theorem dX6_faultOf_59 : decode cX6_faultOf 59 = .ok (.iconst (-1), 1) := by decide +kernel
theorem dX6_faultOf_60 : decode cX6_faultOf 60 = .ok (.goto 7, 3) := by decide +kernel
theorem dX6_faultOf_63 : decode cX6_faultOf 63 = .ok (.aload_n 0, 1) := by decide +kernel
theorem dX6_faultOf_64 : decode cX6_faultOf 64 = .ok (.getfield 99, 3) := by decide +kernel
theorem dX6_faultOf_67 : decode cX6_faultOf 67 = .ok (.ireturn, 1) := by decide +kernel
set_option maxRecDepth 20000 in
theorem ggX6_does_X6_steps : GoodIn wsX6_does wsX6_steps := goodIn_r _ [7, 8, 2, 9, 10, 6, 11, 12, 13, 14, 15, 16, 17, 61, 62, 63, 64, 65, 66, 67, 68, 69, 70, 71, 72] (by decide +kernel) (by decide +kernel)
set_option maxRecDepth 20000 in
theorem gX6_does_X6_steps : GoodIn wsX6_does (wsV RX6 79 RX6 yX6_steps wsX6_steps) := goodIn_app (goodIn_of _ (by decide +kernel)) ggX6_does_X6_steps
set_option maxRecDepth 20000 in
theorem ggX6_does_X6_tables : GoodIn wsX6_does wsX6_tables := goodIn_r _ [21, 2, 9, 10, 6, 11, 12, 13, 14, 15, 16, 17, 61, 62, 63, 64, 65, 66, 67, 68, 69, 70, 71, 72] (by decide +kernel) (by decide +kernel)
set_option maxRecDepth 20000 in
theorem gX6_does_X6_tables : GoodIn wsX6_does (wsV RX6 83 RX6 yX6_tables wsX6_tables) := goodIn_app (goodIn_of _ (by decide +kernel)) ggX6_does_X6_tables
set_option maxRecDepth 20000 in
theorem ggX6_does_X6_volumes : GoodIn wsX6_does wsX6_volumes := goodIn_r _ [25, 2, 9, 10, 6, 11, 12, 13, 14, 15, 16, 17, 61, 62, 63, 64, 65, 66, 67, 68, 69, 70, 71, 72] (by decide +kernel) (by decide +kernel)
set_option maxRecDepth 20000 in
theorem gX6_does_X6_volumes : GoodIn wsX6_does (wsV RX6 86 RX6 yX6_volumes wsX6_volumes) := goodIn_app (goodIn_of _ (by decide +kernel)) ggX6_does_X6_volumes
set_option maxRecDepth 20000 in
theorem ggX6_does_X6_w : GoodIn wsX6_does wsX6_w := goodIn_r _ [17] (by decide +kernel) (by decide +kernel)
set_option maxRecDepth 20000 in
theorem gX6_does_X6_w : GoodIn wsX6_does (va_wsS RX6 36 yX6_w wsX6_w) := goodIn_app (goodIn_of _ (by decide +kernel)) ggX6_does_X6_w
set_option maxRecDepth 20000 in
theorem ggX6_does_X6_turns : GoodIn wsX6_does wsX6_turns := goodIn_r _ [29, 2, 9, 10, 6, 11, 12, 13, 14, 15, 16, 17, 30, 31, 32, 33, 61, 62, 63, 64, 65, 66, 67, 68, 69, 70, 71, 72] (by decide +kernel) (by decide +kernel)
set_option maxRecDepth 20000 in
theorem gX6_does_X6_turns : GoodIn wsX6_does (wsV RX6 89 RX6 yX6_turns wsX6_turns) := goodIn_app (goodIn_of _ (by decide +kernel)) ggX6_does_X6_turns
set_option maxRecDepth 20000 in
theorem ggX6_does_X6_sweeps : GoodIn wsX6_does wsX6_sweeps := goodIn_r _ [37, 8, 2, 9, 10, 6, 11, 12, 13, 14, 15, 16, 17, 61, 62, 63, 64, 65, 66, 67, 68, 69, 70, 71, 72] (by decide +kernel) (by decide +kernel)
set_option maxRecDepth 20000 in
theorem gX6_does_X6_sweeps : GoodIn wsX6_does (wsV RX6 92 RX6 yX6_sweeps wsX6_sweeps) := goodIn_app (goodIn_of _ (by decide +kernel)) ggX6_does_X6_sweeps
set_option maxRecDepth 20000 in
theorem ggX6_does_X6_makesAll : GoodIn wsX6_does wsX6_makesAll := goodIn_r _ [41, 2, 42, 12, 13, 6, 14, 43, 44, 45, 46, 47, 48, 49, 50, 51, 15, 16, 17, 52, 53, 54, 55, 56, 57, 58, 59, 60, 61, 62, 63, 64, 65, 66, 67, 68, 69, 70, 71, 72] (by decide +kernel) (by decide +kernel)
set_option maxRecDepth 20000 in
theorem gX6_does_X6_makesAll : GoodIn wsX6_does (wsV RX6 96 RX6 yX6_makesAll wsX6_makesAll) := goodIn_app (goodIn_of _ (by decide +kernel)) ggX6_does_X6_makesAll
theorem dX6_does_0 : decode cX6_does 0 = .ok (.iconst 4, 1) := by decide +kernel
theorem dX6_does_1 : decode cX6_does 1 = .ok (.iload_n 1, 1) := by decide +kernel
theorem dX6_does_2 : decode cX6_does 2 = .ok (.imul, 1) := by decide +kernel
theorem dX6_does_3 : decode cX6_does 3 = .ok (.istore_n 2, 1) := by decide +kernel
theorem dX6_does_4 : decode cX6_does 4 = .ok (.aload_n 0, 1) := by decide +kernel
theorem dX6_does_5 : decode cX6_does 5 = .ok (.getfield 29, 3) := by decide +kernel
theorem dX6_does_8 : decode cX6_does 8 = .ok (.iload_n 2, 1) := by decide +kernel
theorem dX6_does_9 : decode cX6_does 9 = .ok (.iconst 1, 1) := by decide +kernel
theorem dX6_does_10 : decode cX6_does 10 = .ok (.iadd, 1) := by decide +kernel
theorem dX6_does_11 : decode cX6_does 11 = .ok (.iaload, 1) := by decide +kernel
theorem dX6_does_12 : decode cX6_does 12 = .ok (.istore_n 3, 1) := by decide +kernel
theorem dX6_does_13 : decode cX6_does 13 = .ok (.aload_n 0, 1) := by decide +kernel
theorem dX6_does_14 : decode cX6_does 14 = .ok (.getfield 29, 3) := by decide +kernel
theorem dX6_does_17 : decode cX6_does 17 = .ok (.iload_n 2, 1) := by decide +kernel
theorem dX6_does_18 : decode cX6_does 18 = .ok (.iaload, 1) := by decide +kernel
theorem dX6_does_19 : decode cX6_does 19 = .ok (.lookupswitch 132 #[(62, 110), (111, 91), (115, 49), (116, 63), (118, 77)], 49) := by decide +kernel
theorem dX6_does_68 : decode cX6_does 68 = .ok (.aload_n 0, 1) := by decide +kernel
theorem dX6_does_69 : decode cX6_does 69 = .ok (.iload_n 3, 1) := by decide +kernel
theorem dX6_does_70 : decode cX6_does 70 = .ok (.aload_n 0, 1) := by decide +kernel
theorem dX6_does_71 : decode cX6_does 71 = .ok (.getfield 29, 3) := by decide +kernel
theorem dX6_does_74 : decode cX6_does 74 = .ok (.iload_n 2, 1) := by decide +kernel
theorem dX6_does_75 : decode cX6_does 75 = .ok (.iconst 2, 1) := by decide +kernel
theorem dX6_does_76 : decode cX6_does 76 = .ok (.iadd, 1) := by decide +kernel
theorem dX6_does_77 : decode cX6_does 77 = .ok (.iaload, 1) := by decide +kernel
theorem dX6_does_78 : decode cX6_does 78 = .ok (.invokevirtual 79, 3) := by decide +kernel
theorem dX6_does_81 : decode cX6_does 81 = .ok (.ireturn, 1) := by decide +kernel
theorem dX6_does_82 : decode cX6_does 82 = .ok (.aload_n 0, 1) := by decide +kernel
theorem dX6_does_83 : decode cX6_does 83 = .ok (.iload_n 3, 1) := by decide +kernel
theorem dX6_does_84 : decode cX6_does 84 = .ok (.aload_n 0, 1) := by decide +kernel
theorem dX6_does_85 : decode cX6_does 85 = .ok (.getfield 29, 3) := by decide +kernel
theorem dX6_does_88 : decode cX6_does 88 = .ok (.iload_n 2, 1) := by decide +kernel
theorem dX6_does_89 : decode cX6_does 89 = .ok (.iconst 2, 1) := by decide +kernel
theorem dX6_does_90 : decode cX6_does 90 = .ok (.iadd, 1) := by decide +kernel
theorem dX6_does_91 : decode cX6_does 91 = .ok (.iaload, 1) := by decide +kernel
theorem dX6_does_92 : decode cX6_does 92 = .ok (.invokevirtual 83, 3) := by decide +kernel
theorem dX6_does_95 : decode cX6_does 95 = .ok (.ireturn, 1) := by decide +kernel
theorem dX6_does_96 : decode cX6_does 96 = .ok (.aload_n 0, 1) := by decide +kernel
theorem dX6_does_97 : decode cX6_does 97 = .ok (.iload_n 3, 1) := by decide +kernel
theorem dX6_does_98 : decode cX6_does 98 = .ok (.aload_n 0, 1) := by decide +kernel
theorem dX6_does_99 : decode cX6_does 99 = .ok (.getfield 29, 3) := by decide +kernel
theorem dX6_does_102 : decode cX6_does 102 = .ok (.iload_n 2, 1) := by decide +kernel
theorem dX6_does_103 : decode cX6_does 103 = .ok (.iconst 2, 1) := by decide +kernel
theorem dX6_does_104 : decode cX6_does 104 = .ok (.iadd, 1) := by decide +kernel
theorem dX6_does_105 : decode cX6_does 105 = .ok (.iaload, 1) := by decide +kernel
theorem dX6_does_106 : decode cX6_does 106 = .ok (.invokevirtual 86, 3) := by decide +kernel
theorem dX6_does_109 : decode cX6_does 109 = .ok (.ireturn, 1) := by decide +kernel
theorem dX6_does_110 : decode cX6_does 110 = .ok (.aload_n 0, 1) := by decide +kernel
theorem dX6_does_111 : decode cX6_does 111 = .ok (.iload_n 3, 1) := by decide +kernel
theorem dX6_does_112 : decode cX6_does 112 = .ok (.iconst 1, 1) := by decide +kernel
theorem dX6_does_113 : decode cX6_does 113 = .ok (.aload_n 0, 1) := by decide +kernel
theorem dX6_does_114 : decode cX6_does 114 = .ok (.getfield 7, 3) := by decide +kernel
theorem dX6_does_117 : decode cX6_does 117 = .ok (.iload_n 3, 1) := by decide +kernel
theorem dX6_does_118 : decode cX6_does 118 = .ok (.invokestatic 36, 3) := by decide +kernel
theorem dX6_does_121 : decode cX6_does 121 = .ok (.iconst 4, 1) := by decide +kernel
theorem dX6_does_122 : decode cX6_does 122 = .ok (.iadd, 1) := by decide +kernel
theorem dX6_does_123 : decode cX6_does 123 = .ok (.iaload, 1) := by decide +kernel
theorem dX6_does_124 : decode cX6_does 124 = .ok (.isub, 1) := by decide +kernel
theorem dX6_does_125 : decode cX6_does 125 = .ok (.invokevirtual 89, 3) := by decide +kernel
theorem dX6_does_128 : decode cX6_does 128 = .ok (.ireturn, 1) := by decide +kernel
theorem dX6_does_129 : decode cX6_does 129 = .ok (.aload_n 0, 1) := by decide +kernel
theorem dX6_does_130 : decode cX6_does 130 = .ok (.iload_n 3, 1) := by decide +kernel
theorem dX6_does_131 : decode cX6_does 131 = .ok (.aload_n 0, 1) := by decide +kernel
theorem dX6_does_132 : decode cX6_does 132 = .ok (.getfield 29, 3) := by decide +kernel
theorem dX6_does_135 : decode cX6_does 135 = .ok (.iload_n 2, 1) := by decide +kernel
theorem dX6_does_136 : decode cX6_does 136 = .ok (.iconst 2, 1) := by decide +kernel
theorem dX6_does_137 : decode cX6_does 137 = .ok (.iadd, 1) := by decide +kernel
theorem dX6_does_138 : decode cX6_does 138 = .ok (.iaload, 1) := by decide +kernel
theorem dX6_does_139 : decode cX6_does 139 = .ok (.aload_n 0, 1) := by decide +kernel
theorem dX6_does_140 : decode cX6_does 140 = .ok (.getfield 29, 3) := by decide +kernel
theorem dX6_does_143 : decode cX6_does 143 = .ok (.iload_n 2, 1) := by decide +kernel
theorem dX6_does_144 : decode cX6_does 144 = .ok (.iconst 3, 1) := by decide +kernel
theorem dX6_does_145 : decode cX6_does 145 = .ok (.iadd, 1) := by decide +kernel
theorem dX6_does_146 : decode cX6_does 146 = .ok (.iaload, 1) := by decide +kernel
theorem dX6_does_147 : decode cX6_does 147 = .ok (.invokevirtual 92, 3) := by decide +kernel
theorem dX6_does_150 : decode cX6_does 150 = .ok (.ireturn, 1) := by decide +kernel
theorem dX6_does_151 : decode cX6_does 151 = .ok (.aload_n 0, 1) := by decide +kernel
theorem dX6_does_152 : decode cX6_does 152 = .ok (.aload_n 0, 1) := by decide +kernel
theorem dX6_does_153 : decode cX6_does 153 = .ok (.getfield 29, 3) := by decide +kernel
theorem dX6_does_156 : decode cX6_does 156 = .ok (.iload_n 2, 1) := by decide +kernel
theorem dX6_does_157 : decode cX6_does 157 = .ok (.iconst 2, 1) := by decide +kernel
theorem dX6_does_158 : decode cX6_does 158 = .ok (.iadd, 1) := by decide +kernel
theorem dX6_does_159 : decode cX6_does 159 = .ok (.iaload, 1) := by decide +kernel
theorem dX6_does_160 : decode cX6_does 160 = .ok (.invokevirtual 96, 3) := by decide +kernel
theorem dX6_does_163 : decode cX6_does 163 = .ok (.ireturn, 1) := by decide +kernel
set_option maxRecDepth 20000 in
theorem ggX6_run_X6_faultOf : GoodIn wsX6_run wsX6_faultOf := goodIn_r _ [7, 8, 1, 2, 9, 10, 11, 6, 12, 13, 14, 15, 16, 17, 18, 19, 20, 21, 22, 23, 24, 25, 26, 27, 28, 29, 30, 31, 32, 33, 34, 35, 108, 109, 110, 111, 112, 113, 114, 115, 116, 117, 118, 119] (by decide +kernel) (by decide +kernel)
set_option maxRecDepth 20000 in
theorem gX6_run_X6_faultOf : GoodIn wsX6_run (wsV RX6 129 RX6 yX6_faultOf wsX6_faultOf) := goodIn_app (goodIn_of _ (by decide +kernel)) ggX6_run_X6_faultOf
set_option maxRecDepth 20000 in
theorem ggX6_run_X6_hold : GoodIn wsX6_run wsX6_hold := goodIn_r _ [39, 40, 41, 108, 109, 110, 111, 112, 113, 114, 115, 116, 117, 118, 119] (by decide +kernel) (by decide +kernel)
set_option maxRecDepth 20000 in
theorem gX6_run_X6_hold : GoodIn wsX6_run (wsV RX6 73 RX6 yX6_hold wsX6_hold) := goodIn_app (goodIn_of _ (by decide +kernel)) ggX6_run_X6_hold
set_option maxRecDepth 20000 in
theorem ggX6_run_X6_does : GoodIn wsX6_run wsX6_does := goodIn_r _ [45, 13, 41, 46, 47, 48, 6, 49, 35, 50, 51, 52, 53, 54, 55, 56, 57, 58, 59, 60, 61, 62, 63, 64, 65, 66, 67, 68, 69, 70, 71, 72, 73, 74, 75, 76, 77, 78, 79, 80, 81, 82, 83, 84, 85, 86, 87, 88, 89, 90, 91, 92, 93, 94, 95, 96, 97, 98, 99, 100, 101, 108, 109, 110, 111, 112, 113, 114, 115, 116, 117, 118, 119] (by decide +kernel) (by decide +kernel)
set_option maxRecDepth 20000 in
theorem gX6_run_X6_does : GoodIn wsX6_run (wsV RX6 132 RX6 yX6_does wsX6_does) := goodIn_app (goodIn_of _ (by decide +kernel)) ggX6_run_X6_does
set_option maxRecDepth 20000 in
theorem ggX6_run_X6_recorded : GoodIn wsX6_run wsX6_recorded := goodIn_r _ [105, 106, 107, 40, 108, 109, 110, 111, 112, 113, 114, 115, 116, 117, 118, 119] (by decide +kernel) (by decide +kernel)
set_option maxRecDepth 20000 in
theorem gX6_run_X6_recorded : GoodIn wsX6_run (wsV RX6 76 RX6 yX6_recorded wsX6_recorded) := goodIn_app (goodIn_of _ (by decide +kernel)) ggX6_run_X6_recorded
theorem dX6_run_0 : decode cX6_run 0 = .ok (.aload_n 0, 1) := by decide +kernel
theorem dX6_run_1 : decode cX6_run 1 = .ok (.invokevirtual 129, 3) := by decide +kernel
theorem dX6_run_4 : decode cX6_run 4 = .ok (.ifCond .lt 6, 3) := by decide +kernel
theorem dX6_run_7 : decode cX6_run 7 = .ok (.bipush (-3), 2) := by decide +kernel
theorem dX6_run_9 : decode cX6_run 9 = .ok (.ireturn, 1) := by decide +kernel
theorem dX6_run_10 : decode cX6_run 10 = .ok (.aload_n 0, 1) := by decide +kernel
theorem dX6_run_11 : decode cX6_run 11 = .ok (.invokevirtual 73, 3) := by decide +kernel
theorem dX6_run_14 : decode cX6_run 14 = .ok (.iconst 0, 1) := by decide +kernel
theorem dX6_run_15 : decode cX6_run 15 = .ok (.istore_n 1, 1) := by decide +kernel
theorem dX6_run_16 : decode cX6_run 16 = .ok (.iconst 0, 1) := by decide +kernel
theorem dX6_run_17 : decode cX6_run 17 = .ok (.istore_n 2, 1) := by decide +kernel
theorem dX6_run_18 : decode cX6_run 18 = .ok (.iload_n 2, 1) := by decide +kernel
theorem dX6_run_19 : decode cX6_run 19 = .ok (.aload_n 0, 1) := by decide +kernel
theorem dX6_run_20 : decode cX6_run 20 = .ok (.getfield 109, 3) := by decide +kernel
theorem dX6_run_23 : decode cX6_run 23 = .ok (.if_icmp .ge 25, 3) := by decide +kernel
theorem dX6_run_26 : decode cX6_run 26 = .ok (.iload_n 1, 1) := by decide +kernel
theorem dX6_run_27 : decode cX6_run 27 = .ok (.aload_n 0, 1) := by decide +kernel
theorem dX6_run_28 : decode cX6_run 28 = .ok (.iload_n 2, 1) := by decide +kernel
theorem dX6_run_29 : decode cX6_run 29 = .ok (.invokevirtual 132, 3) := by decide +kernel
theorem dX6_run_32 : decode cX6_run 32 = .ok (.ifCond .lt 7, 3) := by decide +kernel
theorem dX6_run_35 : decode cX6_run 35 = .ok (.iconst 1, 1) := by decide +kernel
theorem dX6_run_36 : decode cX6_run 36 = .ok (.goto 4, 3) := by decide +kernel
theorem dX6_run_39 : decode cX6_run 39 = .ok (.iconst 0, 1) := by decide +kernel
theorem dX6_run_40 : decode cX6_run 40 = .ok (.iadd, 1) := by decide +kernel
theorem dX6_run_41 : decode cX6_run 41 = .ok (.istore_n 1, 1) := by decide +kernel
theorem dX6_run_42 : decode cX6_run 42 = .ok (.iinc 2 1, 3) := by decide +kernel
theorem dX6_run_45 : decode cX6_run 45 = .ok (.goto (-27), 3) := by decide +kernel
theorem dX6_run_48 : decode cX6_run 48 = .ok (.aload_n 0, 1) := by decide +kernel
theorem dX6_run_49 : decode cX6_run 49 = .ok (.iconst 0, 1) := by decide +kernel
theorem dX6_run_50 : decode cX6_run 50 = .ok (.putfield 102, 3) := by decide +kernel
theorem dX6_run_53 : decode cX6_run 53 = .ok (.aload_n 0, 1) := by decide +kernel
theorem dX6_run_54 : decode cX6_run 54 = .ok (.iload_n 1, 1) := by decide +kernel
theorem dX6_run_55 : decode cX6_run 55 = .ok (.invokevirtual 76, 3) := by decide +kernel
theorem dX6_run_58 : decode cX6_run 58 = .ok (.ireturn, 1) := by decide +kernel
theorem dX6_image_0 : decode cX6_image 0 = .ok (.iload_n 0, 1) := by decide +kernel
theorem dX6_image_1 : decode cX6_image 1 = .ok (.ldc 135, 2) := by decide +kernel
theorem dX6_image_3 : decode cX6_image 3 = .ok (.if_icmp .gt 7, 3) := by decide +kernel
theorem dX6_image_6 : decode cX6_image 6 = .ok (.iload_n 0, 1) := by decide +kernel
theorem dX6_image_7 : decode cX6_image 7 = .ok (.goto 7, 3) := by decide +kernel
theorem dX6_image_10 : decode cX6_image 10 = .ok (.ldc 51, 2) := by decide +kernel
theorem dX6_image_12 : decode cX6_image 12 = .ok (.iload_n 0, 1) := by decide +kernel
theorem dX6_image_13 : decode cX6_image 13 = .ok (.isub, 1) := by decide +kernel
theorem dX6_image_14 : decode cX6_image 14 = .ok (.ireturn, 1) := by decide +kernel
theorem dX6_around_0 : decode cX6_around 0 = .ok (.ldc 51, 2) := by decide +kernel
theorem dX6_around_2 : decode cX6_around 2 = .ok (.istore_n 1, 1) := by decide +kernel
theorem dX6_around_3 : decode cX6_around 3 = .ok (.iload_n 0, 1) := by decide +kernel
theorem dX6_around_4 : decode cX6_around 4 = .ok (.istore_n 2, 1) := by decide +kernel
theorem dX6_around_5 : decode cX6_around 5 = .ok (.iload_n 1, 1) := by decide +kernel
theorem dX6_around_6 : decode cX6_around 6 = .ok (.iconst 1, 1) := by decide +kernel
theorem dX6_around_7 : decode cX6_around 7 = .ok (.if_icmp .le 20, 3) := by decide +kernel
theorem dX6_around_10 : decode cX6_around 10 = .ok (.iload_n 2, 1) := by decide +kernel
theorem dX6_around_11 : decode cX6_around 11 = .ok (.iconst 2, 1) := by decide +kernel
theorem dX6_around_12 : decode cX6_around 12 = .ok (.irem, 1) := by decide +kernel
theorem dX6_around_13 : decode cX6_around 13 = .ok (.ifCond .ne 14, 3) := by decide +kernel
theorem dX6_around_16 : decode cX6_around 16 = .ok (.iload_n 1, 1) := by decide +kernel
theorem dX6_around_17 : decode cX6_around 17 = .ok (.iconst 2, 1) := by decide +kernel
theorem dX6_around_18 : decode cX6_around 18 = .ok (.idiv, 1) := by decide +kernel
theorem dX6_around_19 : decode cX6_around 19 = .ok (.istore_n 1, 1) := by decide +kernel
theorem dX6_around_20 : decode cX6_around 20 = .ok (.iload_n 2, 1) := by decide +kernel
theorem dX6_around_21 : decode cX6_around 21 = .ok (.iconst 2, 1) := by decide +kernel
theorem dX6_around_22 : decode cX6_around 22 = .ok (.idiv, 1) := by decide +kernel
theorem dX6_around_23 : decode cX6_around 23 = .ok (.istore_n 2, 1) := by decide +kernel
theorem dX6_around_24 : decode cX6_around 24 = .ok (.goto (-19), 3) := by decide +kernel
theorem dX6_around_27 : decode cX6_around 27 = .ok (.iload_n 1, 1) := by decide +kernel
theorem dX6_around_28 : decode cX6_around 28 = .ok (.ireturn, 1) := by decide +kernel
set_option maxRecDepth 20000 in
theorem ggX6_sweepsTake_X6_w : GoodIn wsX6_sweepsTake wsX6_w := goodIn_r _ [5] (by decide +kernel) (by decide +kernel)
set_option maxRecDepth 20000 in
theorem gX6_sweepsTake_X6_w : GoodIn wsX6_sweepsTake (va_wsS RX6 36 yX6_w wsX6_w) := goodIn_app (goodIn_of _ (by decide +kernel)) ggX6_sweepsTake_X6_w
theorem dX6_sweepsTake_0 : decode cX6_sweepsTake 0 = .ok (.iload_n 1, 1) := by decide +kernel
theorem dX6_sweepsTake_1 : decode cX6_sweepsTake 1 = .ok (.invokestatic 36, 3) := by decide +kernel
theorem dX6_sweepsTake_4 : decode cX6_sweepsTake 4 = .ok (.istore_n 2, 1) := by decide +kernel
theorem dX6_sweepsTake_5 : decode cX6_sweepsTake 5 = .ok (.aload_n 0, 1) := by decide +kernel
theorem dX6_sweepsTake_6 : decode cX6_sweepsTake 6 = .ok (.getfield 7, 3) := by decide +kernel
theorem dX6_sweepsTake_9 : decode cX6_sweepsTake 9 = .ok (.iload_n 2, 1) := by decide +kernel
theorem dX6_sweepsTake_10 : decode cX6_sweepsTake 10 = .ok (.bipush 6, 2) := by decide +kernel
theorem dX6_sweepsTake_12 : decode cX6_sweepsTake 12 = .ok (.iadd, 1) := by decide +kernel
theorem dX6_sweepsTake_13 : decode cX6_sweepsTake 13 = .ok (.iaload, 1) := by decide +kernel
theorem dX6_sweepsTake_14 : decode cX6_sweepsTake 14 = .ok (.ineg, 1) := by decide +kernel
theorem dX6_sweepsTake_15 : decode cX6_sweepsTake 15 = .ok (.istore_n 3, 1) := by decide +kernel
theorem dX6_sweepsTake_16 : decode cX6_sweepsTake 16 = .ok (.iconst 0, 1) := by decide +kernel
theorem dX6_sweepsTake_17 : decode cX6_sweepsTake 17 = .ok (.istore 4, 2) := by decide +kernel
theorem dX6_sweepsTake_19 : decode cX6_sweepsTake 19 = .ok (.iload 4, 2) := by decide +kernel
theorem dX6_sweepsTake_21 : decode cX6_sweepsTake 21 = .ok (.aload_n 0, 1) := by decide +kernel
theorem dX6_sweepsTake_22 : decode cX6_sweepsTake 22 = .ok (.getfield 7, 3) := by decide +kernel
theorem dX6_sweepsTake_25 : decode cX6_sweepsTake 25 = .ok (.iload_n 2, 1) := by decide +kernel
theorem dX6_sweepsTake_26 : decode cX6_sweepsTake 26 = .ok (.iconst 5, 1) := by decide +kernel
theorem dX6_sweepsTake_27 : decode cX6_sweepsTake 27 = .ok (.iadd, 1) := by decide +kernel
theorem dX6_sweepsTake_28 : decode cX6_sweepsTake 28 = .ok (.iaload, 1) := by decide +kernel
theorem dX6_sweepsTake_29 : decode cX6_sweepsTake 29 = .ok (.if_icmp .ge 28, 3) := by decide +kernel
theorem dX6_sweepsTake_32 : decode cX6_sweepsTake 32 = .ok (.iload_n 3, 1) := by decide +kernel
theorem dX6_sweepsTake_33 : decode cX6_sweepsTake 33 = .ok (.aload_n 0, 1) := by decide +kernel
theorem dX6_sweepsTake_34 : decode cX6_sweepsTake 34 = .ok (.getfield 7, 3) := by decide +kernel
theorem dX6_sweepsTake_37 : decode cX6_sweepsTake 37 = .ok (.iload_n 2, 1) := by decide +kernel
theorem dX6_sweepsTake_38 : decode cX6_sweepsTake 38 = .ok (.bipush 8, 2) := by decide +kernel
theorem dX6_sweepsTake_40 : decode cX6_sweepsTake 40 = .ok (.iadd, 1) := by decide +kernel
theorem dX6_sweepsTake_41 : decode cX6_sweepsTake 41 = .ok (.iconst 2, 1) := by decide +kernel
theorem dX6_sweepsTake_42 : decode cX6_sweepsTake 42 = .ok (.iload 4, 2) := by decide +kernel
theorem dX6_sweepsTake_44 : decode cX6_sweepsTake 44 = .ok (.imul, 1) := by decide +kernel
theorem dX6_sweepsTake_45 : decode cX6_sweepsTake 45 = .ok (.iadd, 1) := by decide +kernel
theorem dX6_sweepsTake_46 : decode cX6_sweepsTake 46 = .ok (.iconst 1, 1) := by decide +kernel
theorem dX6_sweepsTake_47 : decode cX6_sweepsTake 47 = .ok (.iadd, 1) := by decide +kernel
theorem dX6_sweepsTake_48 : decode cX6_sweepsTake 48 = .ok (.iaload, 1) := by decide +kernel
theorem dX6_sweepsTake_49 : decode cX6_sweepsTake 49 = .ok (.iadd, 1) := by decide +kernel
theorem dX6_sweepsTake_50 : decode cX6_sweepsTake 50 = .ok (.istore_n 3, 1) := by decide +kernel
theorem dX6_sweepsTake_51 : decode cX6_sweepsTake 51 = .ok (.iinc 4 1, 3) := by decide +kernel
theorem dX6_sweepsTake_54 : decode cX6_sweepsTake 54 = .ok (.goto (-35), 3) := by decide +kernel
theorem dX6_sweepsTake_57 : decode cX6_sweepsTake 57 = .ok (.iload_n 3, 1) := by decide +kernel
theorem dX6_sweepsTake_58 : decode cX6_sweepsTake 58 = .ok (.ireturn, 1) := by decide +kernel
set_option maxRecDepth 20000 in
theorem ggX6_wheel_X6_isOne : GoodIn wsX6_wheel wsX6_isOne := goodIn_r _ [5, 6, 7, 4, 8] (by decide +kernel) (by decide +kernel)
set_option maxRecDepth 20000 in
theorem gX6_wheel_X6_isOne : GoodIn wsX6_wheel (va_wsS RX6 61 yX6_isOne wsX6_isOne) := goodIn_app (goodIn_of _ (by decide +kernel)) ggX6_wheel_X6_isOne
set_option maxRecDepth 20000 in
theorem ggX6_wheel_X6_w : GoodIn wsX6_wheel wsX6_w := goodIn_r _ [11] (by decide +kernel) (by decide +kernel)
set_option maxRecDepth 20000 in
theorem gX6_wheel_X6_w : GoodIn wsX6_wheel (va_wsS RX6 36 yX6_w wsX6_w) := goodIn_app (goodIn_of _ (by decide +kernel)) ggX6_wheel_X6_w
set_option maxRecDepth 20000 in
theorem ggX6_wheel_X6_in : GoodIn wsX6_wheel wsX6_in := goodIn_r _ [8] (by decide +kernel) (by decide +kernel)
set_option maxRecDepth 20000 in
theorem gX6_wheel_X6_in : GoodIn wsX6_wheel (va_wsS RX6 40 yX6_in wsX6_in) := goodIn_app (goodIn_of _ (by decide +kernel)) ggX6_wheel_X6_in
set_option maxRecDepth 20000 in
theorem ggX6_wheel_X6_gives : GoodIn wsX6_wheel wsX6_gives := goodIn_r _ [15, 1, 9, 10, 4, 11, 28, 29, 30, 31, 32, 33, 34, 35, 36, 37, 38, 39] (by decide +kernel) (by decide +kernel)
set_option maxRecDepth 20000 in
theorem gX6_wheel_X6_gives : GoodIn wsX6_wheel (wsV RX6 48 RX6 yX6_gives wsX6_gives) := goodIn_app (goodIn_of _ (by decide +kernel)) ggX6_wheel_X6_gives
set_option maxRecDepth 20000 in
theorem ggX6_wheel_X6_image : GoodIn wsX6_wheel wsX6_image := goodIn_r _ [18, 19, 20] (by decide +kernel) (by decide +kernel)
set_option maxRecDepth 20000 in
theorem gX6_wheel_X6_image : GoodIn wsX6_wheel (va_wsS RX6 136 yX6_image wsX6_image) := goodIn_app (goodIn_of _ (by decide +kernel)) ggX6_wheel_X6_image
set_option maxRecDepth 20000 in
theorem ggX6_wheel_X6_around : GoodIn wsX6_wheel wsX6_around := goodIn_r _ [23, 20] (by decide +kernel) (by decide +kernel)
set_option maxRecDepth 20000 in
theorem gX6_wheel_X6_around : GoodIn wsX6_wheel (va_wsS RX6 139 yX6_around wsX6_around) := goodIn_app (goodIn_of _ (by decide +kernel)) ggX6_wheel_X6_around
set_option maxRecDepth 20000 in
theorem ggX6_wheel_X6_sweepsTake : GoodIn wsX6_wheel wsX6_sweepsTake := goodIn_r _ [27, 1, 9, 10, 4, 11, 28, 29, 30, 31, 32, 33, 34, 35, 36, 37, 38, 39] (by decide +kernel) (by decide +kernel)
set_option maxRecDepth 20000 in
theorem gX6_wheel_X6_sweepsTake : GoodIn wsX6_wheel (wsV RX6 142 RX6 yX6_sweepsTake wsX6_sweepsTake) := goodIn_app (goodIn_of _ (by decide +kernel)) ggX6_wheel_X6_sweepsTake
theorem dX6_wheel_0 : decode cX6_wheel 0 = .ok (.iload_n 1, 1) := by decide +kernel
theorem dX6_wheel_1 : decode cX6_wheel 1 = .ok (.invokestatic 61, 3) := by decide +kernel
theorem dX6_wheel_4 : decode cX6_wheel 4 = .ok (.ifCond .ne 5, 3) := by decide +kernel
theorem dX6_wheel_7 : decode cX6_wheel 7 = .ok (.iconst (-1), 1) := by decide +kernel
theorem dX6_wheel_8 : decode cX6_wheel 8 = .ok (.ireturn, 1) := by decide +kernel
theorem dX6_wheel_9 : decode cX6_wheel 9 = .ok (.iload_n 1, 1) := by decide +kernel
theorem dX6_wheel_10 : decode cX6_wheel 10 = .ok (.invokestatic 36, 3) := by decide +kernel
theorem dX6_wheel_13 : decode cX6_wheel 13 = .ok (.istore_n 3, 1) := by decide +kernel
theorem dX6_wheel_14 : decode cX6_wheel 14 = .ok (.iload_n 2, 1) := by decide +kernel
theorem dX6_wheel_15 : decode cX6_wheel 15 = .ok (.iconst 0, 1) := by decide +kernel
theorem dX6_wheel_16 : decode cX6_wheel 16 = .ok (.iconst 5, 1) := by decide +kernel
theorem dX6_wheel_17 : decode cX6_wheel 17 = .ok (.invokestatic 40, 3) := by decide +kernel
theorem dX6_wheel_20 : decode cX6_wheel 20 = .ok (.ifCond .eq 12, 3) := by decide +kernel
theorem dX6_wheel_23 : decode cX6_wheel 23 = .ok (.aload_n 0, 1) := by decide +kernel
theorem dX6_wheel_24 : decode cX6_wheel 24 = .ok (.getfield 7, 3) := by decide +kernel
theorem dX6_wheel_27 : decode cX6_wheel 27 = .ok (.iload_n 3, 1) := by decide +kernel
theorem dX6_wheel_28 : decode cX6_wheel 28 = .ok (.iload_n 2, 1) := by decide +kernel
theorem dX6_wheel_29 : decode cX6_wheel 29 = .ok (.iadd, 1) := by decide +kernel
theorem dX6_wheel_30 : decode cX6_wheel 30 = .ok (.iaload, 1) := by decide +kernel
theorem dX6_wheel_31 : decode cX6_wheel 31 = .ok (.ireturn, 1) := by decide +kernel
theorem dX6_wheel_32 : decode cX6_wheel 32 = .ok (.iload_n 2, 1) := by decide +kernel
theorem dX6_wheel_33 : decode cX6_wheel 33 = .ok (.tableswitch 116 6 10 #[35, 41, 53, 65, 71], 35) := by decide +kernel
theorem dX6_wheel_68 : decode cX6_wheel 68 = .ok (.aload_n 0, 1) := by decide +kernel
theorem dX6_wheel_69 : decode cX6_wheel 69 = .ok (.iload_n 1, 1) := by decide +kernel
theorem dX6_wheel_70 : decode cX6_wheel 70 = .ok (.invokevirtual 48, 3) := by decide +kernel
theorem dX6_wheel_73 : decode cX6_wheel 73 = .ok (.ireturn, 1) := by decide +kernel
theorem dX6_wheel_74 : decode cX6_wheel 74 = .ok (.aload_n 0, 1) := by decide +kernel
theorem dX6_wheel_75 : decode cX6_wheel 75 = .ok (.getfield 7, 3) := by decide +kernel
theorem dX6_wheel_78 : decode cX6_wheel 78 = .ok (.iload_n 3, 1) := by decide +kernel
theorem dX6_wheel_79 : decode cX6_wheel 79 = .ok (.iconst 1, 1) := by decide +kernel
theorem dX6_wheel_80 : decode cX6_wheel 80 = .ok (.iadd, 1) := by decide +kernel
theorem dX6_wheel_81 : decode cX6_wheel 81 = .ok (.iaload, 1) := by decide +kernel
theorem dX6_wheel_82 : decode cX6_wheel 82 = .ok (.invokestatic 136, 3) := by decide +kernel
theorem dX6_wheel_85 : decode cX6_wheel 85 = .ok (.ireturn, 1) := by decide +kernel
theorem dX6_wheel_86 : decode cX6_wheel 86 = .ok (.aload_n 0, 1) := by decide +kernel
theorem dX6_wheel_87 : decode cX6_wheel 87 = .ok (.getfield 7, 3) := by decide +kernel
theorem dX6_wheel_90 : decode cX6_wheel 90 = .ok (.iload_n 3, 1) := by decide +kernel
theorem dX6_wheel_91 : decode cX6_wheel 91 = .ok (.iconst 1, 1) := by decide +kernel
theorem dX6_wheel_92 : decode cX6_wheel 92 = .ok (.iadd, 1) := by decide +kernel
theorem dX6_wheel_93 : decode cX6_wheel 93 = .ok (.iaload, 1) := by decide +kernel
theorem dX6_wheel_94 : decode cX6_wheel 94 = .ok (.invokestatic 139, 3) := by decide +kernel
theorem dX6_wheel_97 : decode cX6_wheel 97 = .ok (.ireturn, 1) := by decide +kernel
theorem dX6_wheel_98 : decode cX6_wheel 98 = .ok (.aload_n 0, 1) := by decide +kernel
theorem dX6_wheel_99 : decode cX6_wheel 99 = .ok (.iload_n 1, 1) := by decide +kernel
theorem dX6_wheel_100 : decode cX6_wheel 100 = .ok (.invokevirtual 142, 3) := by decide +kernel
theorem dX6_wheel_103 : decode cX6_wheel 103 = .ok (.ireturn, 1) := by decide +kernel
theorem dX6_wheel_104 : decode cX6_wheel 104 = .ok (.aload_n 0, 1) := by decide +kernel
theorem dX6_wheel_105 : decode cX6_wheel 105 = .ok (.getfield 7, 3) := by decide +kernel
theorem dX6_wheel_108 : decode cX6_wheel 108 = .ok (.iload_n 3, 1) := by decide +kernel
theorem dX6_wheel_109 : decode cX6_wheel 109 = .ok (.iconst 5, 1) := by decide +kernel
theorem dX6_wheel_110 : decode cX6_wheel 110 = .ok (.iadd, 1) := by decide +kernel
theorem dX6_wheel_111 : decode cX6_wheel 111 = .ok (.iaload, 1) := by decide +kernel
theorem dX6_wheel_112 : decode cX6_wheel 112 = .ok (.ifCond .ne 14, 3) := by decide +kernel
theorem dX6_wheel_115 : decode cX6_wheel 115 = .ok (.aload_n 0, 1) := by decide +kernel
theorem dX6_wheel_116 : decode cX6_wheel 116 = .ok (.getfield 7, 3) := by decide +kernel
theorem dX6_wheel_119 : decode cX6_wheel 119 = .ok (.iload_n 3, 1) := by decide +kernel
theorem dX6_wheel_120 : decode cX6_wheel 120 = .ok (.iconst 1, 1) := by decide +kernel
theorem dX6_wheel_121 : decode cX6_wheel 121 = .ok (.iadd, 1) := by decide +kernel
theorem dX6_wheel_122 : decode cX6_wheel 122 = .ok (.iaload, 1) := by decide +kernel
theorem dX6_wheel_123 : decode cX6_wheel 123 = .ok (.goto 25, 3) := by decide +kernel
theorem dX6_wheel_126 : decode cX6_wheel 126 = .ok (.aload_n 0, 1) := by decide +kernel
theorem dX6_wheel_127 : decode cX6_wheel 127 = .ok (.getfield 7, 3) := by decide +kernel
theorem dX6_wheel_130 : decode cX6_wheel 130 = .ok (.iload_n 3, 1) := by decide +kernel
theorem dX6_wheel_131 : decode cX6_wheel 131 = .ok (.bipush 8, 2) := by decide +kernel
theorem dX6_wheel_133 : decode cX6_wheel 133 = .ok (.iadd, 1) := by decide +kernel
theorem dX6_wheel_134 : decode cX6_wheel 134 = .ok (.iconst 2, 1) := by decide +kernel
theorem dX6_wheel_135 : decode cX6_wheel 135 = .ok (.aload_n 0, 1) := by decide +kernel
theorem dX6_wheel_136 : decode cX6_wheel 136 = .ok (.getfield 7, 3) := by decide +kernel
theorem dX6_wheel_139 : decode cX6_wheel 139 = .ok (.iload_n 3, 1) := by decide +kernel
theorem dX6_wheel_140 : decode cX6_wheel 140 = .ok (.iconst 5, 1) := by decide +kernel
theorem dX6_wheel_141 : decode cX6_wheel 141 = .ok (.iadd, 1) := by decide +kernel
theorem dX6_wheel_142 : decode cX6_wheel 142 = .ok (.iaload, 1) := by decide +kernel
theorem dX6_wheel_143 : decode cX6_wheel 143 = .ok (.imul, 1) := by decide +kernel
theorem dX6_wheel_144 : decode cX6_wheel 144 = .ok (.iadd, 1) := by decide +kernel
theorem dX6_wheel_145 : decode cX6_wheel 145 = .ok (.iconst 2, 1) := by decide +kernel
theorem dX6_wheel_146 : decode cX6_wheel 146 = .ok (.isub, 1) := by decide +kernel
theorem dX6_wheel_147 : decode cX6_wheel 147 = .ok (.iaload, 1) := by decide +kernel
theorem dX6_wheel_148 : decode cX6_wheel 148 = .ok (.ireturn, 1) := by decide +kernel
theorem dX6_wheel_149 : decode cX6_wheel 149 = .ok (.bipush (-2), 2) := by decide +kernel
theorem dX6_wheel_151 : decode cX6_wheel 151 = .ok (.ireturn, 1) := by decide +kernel
set_option maxRecDepth 20000 in
theorem ggX6_valueOf_X6_isOne : GoodIn wsX6_valueOf wsX6_isOne := goodIn_r _ [5, 6, 7, 4, 8] (by decide +kernel) (by decide +kernel)
set_option maxRecDepth 20000 in
theorem gX6_valueOf_X6_isOne : GoodIn wsX6_valueOf (va_wsS RX6 61 yX6_isOne wsX6_isOne) := goodIn_app (goodIn_of _ (by decide +kernel)) ggX6_valueOf_X6_isOne
set_option maxRecDepth 20000 in
theorem ggX6_valueOf_X6_in : GoodIn wsX6_valueOf wsX6_in := goodIn_r _ [8] (by decide +kernel) (by decide +kernel)
set_option maxRecDepth 20000 in
theorem gX6_valueOf_X6_in : GoodIn wsX6_valueOf (va_wsS RX6 40 yX6_in wsX6_in) := goodIn_app (goodIn_of _ (by decide +kernel)) ggX6_valueOf_X6_in
theorem dX6_valueOf_0 : decode cX6_valueOf 0 = .ok (.iload_n 1, 1) := by decide +kernel
theorem dX6_valueOf_1 : decode cX6_valueOf 1 = .ok (.invokestatic 61, 3) := by decide +kernel
theorem dX6_valueOf_4 : decode cX6_valueOf 4 = .ok (.ifCond .eq 30, 3) := by decide +kernel
theorem dX6_valueOf_7 : decode cX6_valueOf 7 = .ok (.iload_n 2, 1) := by decide +kernel
theorem dX6_valueOf_8 : decode cX6_valueOf 8 = .ok (.iconst 0, 1) := by decide +kernel
theorem dX6_valueOf_9 : decode cX6_valueOf 9 = .ok (.bipush 15, 2) := by decide +kernel
theorem dX6_valueOf_11 : decode cX6_valueOf 11 = .ok (.invokestatic 40, 3) := by decide +kernel
theorem dX6_valueOf_14 : decode cX6_valueOf 14 = .ok (.ifCond .eq 20, 3) := by decide +kernel
theorem dX6_valueOf_17 : decode cX6_valueOf 17 = .ok (.aload_n 0, 1) := by decide +kernel
theorem dX6_valueOf_18 : decode cX6_valueOf 18 = .ok (.getfield 7, 3) := by decide +kernel
theorem dX6_valueOf_21 : decode cX6_valueOf 21 = .ok (.bipush 6, 2) := by decide +kernel
theorem dX6_valueOf_23 : decode cX6_valueOf 23 = .ok (.bipush 16, 2) := by decide +kernel
theorem dX6_valueOf_25 : decode cX6_valueOf 25 = .ok (.iload_n 1, 1) := by decide +kernel
theorem dX6_valueOf_26 : decode cX6_valueOf 26 = .ok (.imul, 1) := by decide +kernel
theorem dX6_valueOf_27 : decode cX6_valueOf 27 = .ok (.iadd, 1) := by decide +kernel
theorem dX6_valueOf_28 : decode cX6_valueOf 28 = .ok (.iload_n 2, 1) := by decide +kernel
theorem dX6_valueOf_29 : decode cX6_valueOf 29 = .ok (.iadd, 1) := by decide +kernel
theorem dX6_valueOf_30 : decode cX6_valueOf 30 = .ok (.iaload, 1) := by decide +kernel
theorem dX6_valueOf_31 : decode cX6_valueOf 31 = .ok (.goto 4, 3) := by decide +kernel
theorem dX6_valueOf_34 : decode cX6_valueOf 34 = .ok (.iconst (-1), 1) := by decide +kernel
theorem dX6_valueOf_35 : decode cX6_valueOf 35 = .ok (.ireturn, 1) := by decide +kernel
set_option maxRecDepth 20000 in
theorem ggX6_sample_X6_in : GoodIn wsX6_sample wsX6_in := goodIn_r _ [5] (by decide +kernel) (by decide +kernel)
set_option maxRecDepth 20000 in
theorem gX6_sample_X6_in : GoodIn wsX6_sample (va_wsS RX6 40 yX6_in wsX6_in) := goodIn_app (goodIn_of _ (by decide +kernel)) ggX6_sample_X6_in
theorem dX6_sample_0 : decode cX6_sample 0 = .ok (.iload_n 1, 1) := by decide +kernel
theorem dX6_sample_1 : decode cX6_sample 1 = .ok (.iconst 0, 1) := by decide +kernel
theorem dX6_sample_2 : decode cX6_sample 2 = .ok (.bipush 31, 2) := by decide +kernel
theorem dX6_sample_4 : decode cX6_sample 4 = .ok (.invokestatic 40, 3) := by decide +kernel
theorem dX6_sample_7 : decode cX6_sample 7 = .ok (.ifCond .ne 6, 3) := by decide +kernel
theorem dX6_sample_10 : decode cX6_sample 10 = .ok (.bipush (-2), 2) := by decide +kernel
theorem dX6_sample_12 : decode cX6_sample 12 = .ok (.ireturn, 1) := by decide +kernel
theorem dX6_sample_13 : decode cX6_sample 13 = .ok (.iload_n 1, 1) := by decide +kernel
theorem dX6_sample_14 : decode cX6_sample 14 = .ok (.aload_n 0, 1) := by decide +kernel
theorem dX6_sample_15 : decode cX6_sample 15 = .ok (.getfield 7, 3) := by decide +kernel
theorem dX6_sample_18 : decode cX6_sample 18 = .ok (.iconst 1, 1) := by decide +kernel
theorem dX6_sample_19 : decode cX6_sample 19 = .ok (.iaload, 1) := by decide +kernel
theorem dX6_sample_20 : decode cX6_sample 20 = .ok (.if_icmp .ge 28, 3) := by decide +kernel
theorem dX6_sample_23 : decode cX6_sample 23 = .ok (.aload_n 0, 1) := by decide +kernel
theorem dX6_sample_24 : decode cX6_sample 24 = .ok (.getfield 7, 3) := by decide +kernel
theorem dX6_sample_27 : decode cX6_sample 27 = .ok (.sipush 134, 3) := by decide +kernel
theorem dX6_sample_30 : decode cX6_sample 30 = .ok (.aload_n 0, 1) := by decide +kernel
theorem dX6_sample_31 : decode cX6_sample 31 = .ok (.getfield 7, 3) := by decide +kernel
theorem dX6_sample_34 : decode cX6_sample 34 = .ok (.iconst 1, 1) := by decide +kernel
theorem dX6_sample_35 : decode cX6_sample 35 = .ok (.iaload, 1) := by decide +kernel
theorem dX6_sample_36 : decode cX6_sample 36 = .ok (.iconst 1, 1) := by decide +kernel
theorem dX6_sample_37 : decode cX6_sample 37 = .ok (.isub, 1) := by decide +kernel
theorem dX6_sample_38 : decode cX6_sample 38 = .ok (.iload_n 1, 1) := by decide +kernel
theorem dX6_sample_39 : decode cX6_sample 39 = .ok (.isub, 1) := by decide +kernel
theorem dX6_sample_40 : decode cX6_sample 40 = .ok (.bipush 32, 2) := by decide +kernel
theorem dX6_sample_42 : decode cX6_sample 42 = .ok (.irem, 1) := by decide +kernel
theorem dX6_sample_43 : decode cX6_sample 43 = .ok (.iadd, 1) := by decide +kernel
theorem dX6_sample_44 : decode cX6_sample 44 = .ok (.iaload, 1) := by decide +kernel
theorem dX6_sample_45 : decode cX6_sample 45 = .ok (.goto 5, 3) := by decide +kernel
theorem dX6_sample_48 : decode cX6_sample 48 = .ok (.bipush (-6), 2) := by decide +kernel
theorem dX6_sample_50 : decode cX6_sample 50 = .ok (.ireturn, 1) := by decide +kernel
set_option maxRecDepth 20000 in
theorem ggX6_beat_X6_isOne : GoodIn wsX6_beat wsX6_isOne := goodIn_r _ [5, 6, 7, 4, 8] (by decide +kernel) (by decide +kernel)
set_option maxRecDepth 20000 in
theorem gX6_beat_X6_isOne : GoodIn wsX6_beat (va_wsS RX6 61 yX6_isOne wsX6_isOne) := goodIn_app (goodIn_of _ (by decide +kernel)) ggX6_beat_X6_isOne
set_option maxRecDepth 20000 in
theorem ggX6_beat_X6_w : GoodIn wsX6_beat wsX6_w := goodIn_r _ [11] (by decide +kernel) (by decide +kernel)
set_option maxRecDepth 20000 in
theorem gX6_beat_X6_w : GoodIn wsX6_beat (va_wsS RX6 36 yX6_w wsX6_w) := goodIn_app (goodIn_of _ (by decide +kernel)) ggX6_beat_X6_w
set_option maxRecDepth 20000 in
theorem ggX6_beat_X6_image : GoodIn wsX6_beat wsX6_image := goodIn_r _ [14, 15, 16] (by decide +kernel) (by decide +kernel)
set_option maxRecDepth 20000 in
theorem gX6_beat_X6_image : GoodIn wsX6_beat (va_wsS RX6 136 yX6_image wsX6_image) := goodIn_app (goodIn_of _ (by decide +kernel)) ggX6_beat_X6_image
theorem dX6_beat_0 : decode cX6_beat 0 = .ok (.iload_n 1, 1) := by decide +kernel
theorem dX6_beat_1 : decode cX6_beat 1 = .ok (.invokestatic 61, 3) := by decide +kernel
theorem dX6_beat_4 : decode cX6_beat 4 = .ok (.ifCond .eq 10, 3) := by decide +kernel
theorem dX6_beat_7 : decode cX6_beat 7 = .ok (.iload_n 2, 1) := by decide +kernel
theorem dX6_beat_8 : decode cX6_beat 8 = .ok (.invokestatic 61, 3) := by decide +kernel
theorem dX6_beat_11 : decode cX6_beat 11 = .ok (.ifCond .ne 5, 3) := by decide +kernel
theorem dX6_beat_14 : decode cX6_beat 14 = .ok (.iconst (-1), 1) := by decide +kernel
theorem dX6_beat_15 : decode cX6_beat 15 = .ok (.ireturn, 1) := by decide +kernel
theorem dX6_beat_16 : decode cX6_beat 16 = .ok (.aload_n 0, 1) := by decide +kernel
theorem dX6_beat_17 : decode cX6_beat 17 = .ok (.getfield 7, 3) := by decide +kernel
theorem dX6_beat_20 : decode cX6_beat 20 = .ok (.iload_n 1, 1) := by decide +kernel
theorem dX6_beat_21 : decode cX6_beat 21 = .ok (.invokestatic 36, 3) := by decide +kernel
theorem dX6_beat_24 : decode cX6_beat 24 = .ok (.iconst 1, 1) := by decide +kernel
theorem dX6_beat_25 : decode cX6_beat 25 = .ok (.iadd, 1) := by decide +kernel
theorem dX6_beat_26 : decode cX6_beat 26 = .ok (.iaload, 1) := by decide +kernel
theorem dX6_beat_27 : decode cX6_beat 27 = .ok (.invokestatic 136, 3) := by decide +kernel
theorem dX6_beat_30 : decode cX6_beat 30 = .ok (.aload_n 0, 1) := by decide +kernel
theorem dX6_beat_31 : decode cX6_beat 31 = .ok (.getfield 7, 3) := by decide +kernel
theorem dX6_beat_34 : decode cX6_beat 34 = .ok (.iload_n 2, 1) := by decide +kernel
theorem dX6_beat_35 : decode cX6_beat 35 = .ok (.invokestatic 36, 3) := by decide +kernel
theorem dX6_beat_38 : decode cX6_beat 38 = .ok (.iconst 1, 1) := by decide +kernel
theorem dX6_beat_39 : decode cX6_beat 39 = .ok (.iadd, 1) := by decide +kernel
theorem dX6_beat_40 : decode cX6_beat 40 = .ok (.iaload, 1) := by decide +kernel
theorem dX6_beat_41 : decode cX6_beat 41 = .ok (.invokestatic 136, 3) := by decide +kernel
theorem dX6_beat_44 : decode cX6_beat 44 = .ok (.isub, 1) := by decide +kernel
theorem dX6_beat_45 : decode cX6_beat 45 = .ok (.istore_n 3, 1) := by decide +kernel
theorem dX6_beat_46 : decode cX6_beat 46 = .ok (.iload_n 3, 1) := by decide +kernel
theorem dX6_beat_47 : decode cX6_beat 47 = .ok (.ifCond .ge 8, 3) := by decide +kernel
theorem dX6_beat_50 : decode cX6_beat 50 = .ok (.iload_n 3, 1) := by decide +kernel
theorem dX6_beat_51 : decode cX6_beat 51 = .ok (.ineg, 1) := by decide +kernel
theorem dX6_beat_52 : decode cX6_beat 52 = .ok (.goto 4, 3) := by decide +kernel
theorem dX6_beat_55 : decode cX6_beat 55 = .ok (.iload_n 3, 1) := by decide +kernel
theorem dX6_beat_56 : decode cX6_beat 56 = .ok (.ireturn, 1) := by decide +kernel
set_option maxRecDepth 20000 in
theorem ggX6_together_X6_w : GoodIn wsX6_together wsX6_w := goodIn_r _ [5] (by decide +kernel) (by decide +kernel)
set_option maxRecDepth 20000 in
theorem gX6_together_X6_w : GoodIn wsX6_together (va_wsS RX6 36 yX6_w wsX6_w) := goodIn_app (goodIn_of _ (by decide +kernel)) ggX6_together_X6_w
set_option maxRecDepth 20000 in
theorem ggX6_together_X6_around : GoodIn wsX6_together wsX6_around := goodIn_r _ [8, 9] (by decide +kernel) (by decide +kernel)
set_option maxRecDepth 20000 in
theorem gX6_together_X6_around : GoodIn wsX6_together (va_wsS RX6 139 yX6_around wsX6_around) := goodIn_app (goodIn_of _ (by decide +kernel)) ggX6_together_X6_around
theorem dX6_together_0 : decode cX6_together 0 = .ok (.iconst 1, 1) := by decide +kernel
theorem dX6_together_1 : decode cX6_together 1 = .ok (.istore_n 1, 1) := by decide +kernel
theorem dX6_together_2 : decode cX6_together 2 = .ok (.iconst 0, 1) := by decide +kernel
theorem dX6_together_3 : decode cX6_together 3 = .ok (.istore_n 2, 1) := by decide +kernel
theorem dX6_together_4 : decode cX6_together 4 = .ok (.iload_n 2, 1) := by decide +kernel
theorem dX6_together_5 : decode cX6_together 5 = .ok (.iconst 4, 1) := by decide +kernel
theorem dX6_together_6 : decode cX6_together 6 = .ok (.if_icmp .ge 54, 3) := by decide +kernel
theorem dX6_together_9 : decode cX6_together 9 = .ok (.aload_n 0, 1) := by decide +kernel
theorem dX6_together_10 : decode cX6_together 10 = .ok (.getfield 7, 3) := by decide +kernel
theorem dX6_together_13 : decode cX6_together 13 = .ok (.iload_n 2, 1) := by decide +kernel
theorem dX6_together_14 : decode cX6_together 14 = .ok (.invokestatic 36, 3) := by decide +kernel
theorem dX6_together_17 : decode cX6_together 17 = .ok (.iconst 4, 1) := by decide +kernel
theorem dX6_together_18 : decode cX6_together 18 = .ok (.iadd, 1) := by decide +kernel
theorem dX6_together_19 : decode cX6_together 19 = .ok (.iaload, 1) := by decide +kernel
theorem dX6_together_20 : decode cX6_together 20 = .ok (.iconst 1, 1) := by decide +kernel
theorem dX6_together_21 : decode cX6_together 21 = .ok (.if_icmp .ne 20, 3) := by decide +kernel
theorem dX6_together_24 : decode cX6_together 24 = .ok (.aload_n 0, 1) := by decide +kernel
theorem dX6_together_25 : decode cX6_together 25 = .ok (.getfield 7, 3) := by decide +kernel
theorem dX6_together_28 : decode cX6_together 28 = .ok (.iload_n 2, 1) := by decide +kernel
theorem dX6_together_29 : decode cX6_together 29 = .ok (.invokestatic 36, 3) := by decide +kernel
theorem dX6_together_32 : decode cX6_together 32 = .ok (.iconst 1, 1) := by decide +kernel
theorem dX6_together_33 : decode cX6_together 33 = .ok (.iadd, 1) := by decide +kernel
theorem dX6_together_34 : decode cX6_together 34 = .ok (.iaload, 1) := by decide +kernel
theorem dX6_together_35 : decode cX6_together 35 = .ok (.invokestatic 139, 3) := by decide +kernel
theorem dX6_together_38 : decode cX6_together 38 = .ok (.goto 4, 3) := by decide +kernel
theorem dX6_together_41 : decode cX6_together 41 = .ok (.iconst 1, 1) := by decide +kernel
theorem dX6_together_42 : decode cX6_together 42 = .ok (.istore_n 3, 1) := by decide +kernel
theorem dX6_together_43 : decode cX6_together 43 = .ok (.iload_n 3, 1) := by decide +kernel
theorem dX6_together_44 : decode cX6_together 44 = .ok (.iload_n 1, 1) := by decide +kernel
theorem dX6_together_45 : decode cX6_together 45 = .ok (.if_icmp .le 7, 3) := by decide +kernel
theorem dX6_together_48 : decode cX6_together 48 = .ok (.iload_n 3, 1) := by decide +kernel
theorem dX6_together_49 : decode cX6_together 49 = .ok (.goto 4, 3) := by decide +kernel
theorem dX6_together_52 : decode cX6_together 52 = .ok (.iload_n 1, 1) := by decide +kernel
theorem dX6_together_53 : decode cX6_together 53 = .ok (.istore_n 1, 1) := by decide +kernel
theorem dX6_together_54 : decode cX6_together 54 = .ok (.iinc 2 1, 3) := by decide +kernel
theorem dX6_together_57 : decode cX6_together 57 = .ok (.goto (-53), 3) := by decide +kernel
theorem dX6_together_60 : decode cX6_together 60 = .ok (.iload_n 1, 1) := by decide +kernel
theorem dX6_together_61 : decode cX6_together 61 = .ok (.ireturn, 1) := by decide +kernel
set_option maxRecDepth 20000 in
theorem ggX6_count_X6_onWheels : GoodIn wsX6_count wsX6_onWheels := goodIn_r _ [8, 1, 9, 10, 7, 11, 28, 29, 30, 31, 32, 33, 34, 35, 36, 37, 38, 39] (by decide +kernel) (by decide +kernel)
set_option maxRecDepth 20000 in
theorem gX6_count_X6_onWheels : GoodIn wsX6_count (wsV RX6 66 RX6 yX6_onWheels wsX6_onWheels) := goodIn_app (goodIn_of _ (by decide +kernel)) ggX6_count_X6_onWheels
set_option maxRecDepth 20000 in
theorem ggX6_count_X6_mixture : GoodIn wsX6_count wsX6_mixture := goodIn_r _ [15, 1, 9, 10, 7, 11, 16, 17, 18, 19, 28, 29, 30, 31, 32, 33, 34, 35, 36, 37, 38, 39] (by decide +kernel) (by decide +kernel)
set_option maxRecDepth 20000 in
theorem gX6_count_X6_mixture : GoodIn wsX6_count (wsV RX6 52 RX6 yX6_mixture wsX6_mixture) := goodIn_app (goodIn_of _ (by decide +kernel)) ggX6_count_X6_mixture
set_option maxRecDepth 20000 in
theorem ggX6_count_X6_together : GoodIn wsX6_count wsX6_together := goodIn_r _ [23, 1, 9, 10, 7, 11, 24, 25, 26, 27, 28, 29, 30, 31, 32, 33, 34, 35, 36, 37, 38, 39] (by decide +kernel) (by decide +kernel)
set_option maxRecDepth 20000 in
theorem gX6_count_X6_together : GoodIn wsX6_count (wsV RX6 145 RX6 yX6_together wsX6_together) := goodIn_app (goodIn_of _ (by decide +kernel)) ggX6_count_X6_together
theorem dX6_count_0 : decode cX6_count 0 = .ok (.iload_n 1, 1) := by decide +kernel
theorem dX6_count_1 : decode cX6_count 1 = .ok (.tableswitch 123 0 9 #[55, 55, 55, 62, 67, 94, 101, 108, 113, 118], 55) := by decide +kernel
theorem dX6_count_56 : decode cX6_count 56 = .ok (.aload_n 0, 1) := by decide +kernel
theorem dX6_count_57 : decode cX6_count 57 = .ok (.getfield 7, 3) := by decide +kernel
theorem dX6_count_60 : decode cX6_count 60 = .ok (.iload_n 1, 1) := by decide +kernel
theorem dX6_count_61 : decode cX6_count 61 = .ok (.iaload, 1) := by decide +kernel
theorem dX6_count_62 : decode cX6_count 62 = .ok (.ireturn, 1) := by decide +kernel
theorem dX6_count_63 : decode cX6_count 63 = .ok (.aload_n 0, 1) := by decide +kernel
theorem dX6_count_64 : decode cX6_count 64 = .ok (.invokevirtual 66, 3) := by decide +kernel
theorem dX6_count_67 : decode cX6_count 67 = .ok (.ireturn, 1) := by decide +kernel
theorem dX6_count_68 : decode cX6_count 68 = .ok (.aload_n 0, 1) := by decide +kernel
theorem dX6_count_69 : decode cX6_count 69 = .ok (.invokevirtual 52, 3) := by decide +kernel
theorem dX6_count_72 : decode cX6_count 72 = .ok (.aload_n 0, 1) := by decide +kernel
theorem dX6_count_73 : decode cX6_count 73 = .ok (.getfield 7, 3) := by decide +kernel
theorem dX6_count_76 : decode cX6_count 76 = .ok (.iconst 0, 1) := by decide +kernel
theorem dX6_count_77 : decode cX6_count 77 = .ok (.iaload, 1) := by decide +kernel
theorem dX6_count_78 : decode cX6_count 78 = .ok (.if_icmp .le 12, 3) := by decide +kernel
theorem dX6_count_81 : decode cX6_count 81 = .ok (.aload_n 0, 1) := by decide +kernel
theorem dX6_count_82 : decode cX6_count 82 = .ok (.getfield 7, 3) := by decide +kernel
theorem dX6_count_85 : decode cX6_count 85 = .ok (.iconst 0, 1) := by decide +kernel
theorem dX6_count_86 : decode cX6_count 86 = .ok (.iaload, 1) := by decide +kernel
theorem dX6_count_87 : decode cX6_count 87 = .ok (.goto 7, 3) := by decide +kernel
theorem dX6_count_90 : decode cX6_count 90 = .ok (.aload_n 0, 1) := by decide +kernel
theorem dX6_count_91 : decode cX6_count 91 = .ok (.invokevirtual 52, 3) := by decide +kernel
theorem dX6_count_94 : decode cX6_count 94 = .ok (.ireturn, 1) := by decide +kernel
theorem dX6_count_95 : decode cX6_count 95 = .ok (.aload_n 0, 1) := by decide +kernel
theorem dX6_count_96 : decode cX6_count 96 = .ok (.getfield 7, 3) := by decide +kernel
theorem dX6_count_99 : decode cX6_count 99 = .ok (.iconst 3, 1) := by decide +kernel
theorem dX6_count_100 : decode cX6_count 100 = .ok (.iaload, 1) := by decide +kernel
theorem dX6_count_101 : decode cX6_count 101 = .ok (.ireturn, 1) := by decide +kernel
theorem dX6_count_102 : decode cX6_count 102 = .ok (.aload_n 0, 1) := by decide +kernel
theorem dX6_count_103 : decode cX6_count 103 = .ok (.getfield 7, 3) := by decide +kernel
theorem dX6_count_106 : decode cX6_count 106 = .ok (.iconst 4, 1) := by decide +kernel
theorem dX6_count_107 : decode cX6_count 107 = .ok (.iaload, 1) := by decide +kernel
theorem dX6_count_108 : decode cX6_count 108 = .ok (.ireturn, 1) := by decide +kernel
theorem dX6_count_109 : decode cX6_count 109 = .ok (.aload_n 0, 1) := by decide +kernel
theorem dX6_count_110 : decode cX6_count 110 = .ok (.invokevirtual 145, 3) := by decide +kernel
theorem dX6_count_113 : decode cX6_count 113 = .ok (.ireturn, 1) := by decide +kernel
theorem dX6_count_114 : decode cX6_count 114 = .ok (.aload_n 0, 1) := by decide +kernel
theorem dX6_count_115 : decode cX6_count 115 = .ok (.getfield 102, 3) := by decide +kernel
theorem dX6_count_118 : decode cX6_count 118 = .ok (.ireturn, 1) := by decide +kernel
theorem dX6_count_119 : decode cX6_count 119 = .ok (.aload_n 0, 1) := by decide +kernel
theorem dX6_count_120 : decode cX6_count 120 = .ok (.getfield 44, 3) := by decide +kernel
theorem dX6_count_123 : decode cX6_count 123 = .ok (.ireturn, 1) := by decide +kernel
theorem dX6_count_124 : decode cX6_count 124 = .ok (.bipush (-2), 2) := by decide +kernel
theorem dX6_count_126 : decode cX6_count 126 = .ok (.ireturn, 1) := by decide +kernel
set_option maxRecDepth 20000 in
theorem ggX6_ifMade_X6_in : GoodIn wsX6_ifMade wsX6_in := goodIn_r _ [6] (by decide +kernel) (by decide +kernel)
set_option maxRecDepth 20000 in
theorem gX6_ifMade_X6_in : GoodIn wsX6_ifMade (va_wsS RX6 40 yX6_in wsX6_in) := goodIn_app (goodIn_of _ (by decide +kernel)) ggX6_ifMade_X6_in
set_option maxRecDepth 20000 in
theorem ggX6_ifMade_X6_keepTrial : GoodIn wsX6_ifMade wsX6_keepTrial := goodIn_r _ [10, 2, 1, 36, 37, 38, 39, 40, 41, 42, 43, 44, 45, 46, 47] (by decide +kernel) (by decide +kernel)
set_option maxRecDepth 20000 in
theorem gX6_ifMade_X6_keepTrial : GoodIn wsX6_ifMade (wsV RX6 148 RX6 yX6_keepTrial wsX6_keepTrial) := goodIn_app (goodIn_of _ (by decide +kernel)) ggX6_ifMade_X6_keepTrial
set_option maxRecDepth 20000 in
theorem ggX6_ifMade_X6_makes : GoodIn wsX6_ifMade wsX6_makes := goodIn_r _ [14, 1, 15, 16, 17, 18, 5, 19, 20, 21, 22, 23, 24, 25, 26, 27, 28, 29, 30, 31, 36, 37, 38, 39, 40, 41, 42, 43, 44, 45, 46, 47] (by decide +kernel) (by decide +kernel)
set_option maxRecDepth 20000 in
theorem gX6_ifMade_X6_makes : GoodIn wsX6_ifMade (wsV RX6 70 RX6 yX6_makes wsX6_makes) := goodIn_app (goodIn_of _ (by decide +kernel)) ggX6_ifMade_X6_makes
set_option maxRecDepth 20000 in
theorem ggX6_ifMade_X6_putBack : GoodIn wsX6_ifMade wsX6_putBack := goodIn_r _ [35, 1, 2, 36, 37, 38, 39, 40, 41, 42, 43, 44, 45, 46, 47] (by decide +kernel) (by decide +kernel)
set_option maxRecDepth 20000 in
theorem gX6_ifMade_X6_putBack : GoodIn wsX6_ifMade (wsV RX6 151 RX6 yX6_putBack wsX6_putBack) := goodIn_app (goodIn_of _ (by decide +kernel)) ggX6_ifMade_X6_putBack
theorem dX6_ifMade_0 : decode cX6_ifMade 0 = .ok (.iload_n 1, 1) := by decide +kernel
theorem dX6_ifMade_1 : decode cX6_ifMade 1 = .ok (.iconst 1, 1) := by decide +kernel
theorem dX6_ifMade_2 : decode cX6_ifMade 2 = .ok (.sipush 2000, 3) := by decide +kernel
theorem dX6_ifMade_5 : decode cX6_ifMade 5 = .ok (.invokestatic 40, 3) := by decide +kernel
theorem dX6_ifMade_8 : decode cX6_ifMade 8 = .ok (.ifCond .eq 12, 3) := by decide +kernel
theorem dX6_ifMade_11 : decode cX6_ifMade 11 = .ok (.iload_n 2, 1) := by decide +kernel
theorem dX6_ifMade_12 : decode cX6_ifMade 12 = .ok (.iconst 0, 1) := by decide +kernel
theorem dX6_ifMade_13 : decode cX6_ifMade 13 = .ok (.iconst 3, 1) := by decide +kernel
theorem dX6_ifMade_14 : decode cX6_ifMade 14 = .ok (.invokestatic 40, 3) := by decide +kernel
theorem dX6_ifMade_17 : decode cX6_ifMade 17 = .ok (.ifCond .ne 6, 3) := by decide +kernel
theorem dX6_ifMade_20 : decode cX6_ifMade 20 = .ok (.bipush (-2), 2) := by decide +kernel
theorem dX6_ifMade_22 : decode cX6_ifMade 22 = .ok (.ireturn, 1) := by decide +kernel
theorem dX6_ifMade_23 : decode cX6_ifMade 23 = .ok (.aload_n 0, 1) := by decide +kernel
theorem dX6_ifMade_24 : decode cX6_ifMade 24 = .ok (.invokevirtual 148, 3) := by decide +kernel
theorem dX6_ifMade_27 : decode cX6_ifMade 27 = .ok (.iconst 0, 1) := by decide +kernel
theorem dX6_ifMade_28 : decode cX6_ifMade 28 = .ok (.istore_n 3, 1) := by decide +kernel
theorem dX6_ifMade_29 : decode cX6_ifMade 29 = .ok (.sipush 1000, 3) := by decide +kernel
theorem dX6_ifMade_32 : decode cX6_ifMade 32 = .ok (.istore 4, 2) := by decide +kernel
theorem dX6_ifMade_34 : decode cX6_ifMade 34 = .ok (.iconst 0, 1) := by decide +kernel
theorem dX6_ifMade_35 : decode cX6_ifMade 35 = .ok (.istore 5, 2) := by decide +kernel
theorem dX6_ifMade_37 : decode cX6_ifMade 37 = .ok (.iconst 0, 1) := by decide +kernel
theorem dX6_ifMade_38 : decode cX6_ifMade 38 = .ok (.istore 6, 2) := by decide +kernel
theorem dX6_ifMade_40 : decode cX6_ifMade 40 = .ok (.iload 6, 2) := by decide +kernel
theorem dX6_ifMade_42 : decode cX6_ifMade 42 = .ok (.iload_n 1, 1) := by decide +kernel
theorem dX6_ifMade_43 : decode cX6_ifMade 43 = .ok (.if_icmp .ge 44, 3) := by decide +kernel
theorem dX6_ifMade_46 : decode cX6_ifMade 46 = .ok (.aload_n 0, 1) := by decide +kernel
theorem dX6_ifMade_47 : decode cX6_ifMade 47 = .ok (.invokevirtual 70, 3) := by decide +kernel
theorem dX6_ifMade_50 : decode cX6_ifMade 50 = .ok (.istore 5, 2) := by decide +kernel
theorem dX6_ifMade_52 : decode cX6_ifMade 52 = .ok (.iload 5, 2) := by decide +kernel
theorem dX6_ifMade_54 : decode cX6_ifMade 54 = .ok (.iload_n 3, 1) := by decide +kernel
theorem dX6_ifMade_55 : decode cX6_ifMade 55 = .ok (.if_icmp .le 8, 3) := by decide +kernel
theorem dX6_ifMade_58 : decode cX6_ifMade 58 = .ok (.iload 5, 2) := by decide +kernel
theorem dX6_ifMade_60 : decode cX6_ifMade 60 = .ok (.goto 4, 3) := by decide +kernel
theorem dX6_ifMade_63 : decode cX6_ifMade 63 = .ok (.iload_n 3, 1) := by decide +kernel
theorem dX6_ifMade_64 : decode cX6_ifMade 64 = .ok (.istore_n 3, 1) := by decide +kernel
theorem dX6_ifMade_65 : decode cX6_ifMade 65 = .ok (.iload 5, 2) := by decide +kernel
theorem dX6_ifMade_67 : decode cX6_ifMade 67 = .ok (.iload 4, 2) := by decide +kernel
theorem dX6_ifMade_69 : decode cX6_ifMade 69 = .ok (.if_icmp .ge 8, 3) := by decide +kernel
theorem dX6_ifMade_72 : decode cX6_ifMade 72 = .ok (.iload 5, 2) := by decide +kernel
theorem dX6_ifMade_74 : decode cX6_ifMade 74 = .ok (.goto 5, 3) := by decide +kernel
theorem dX6_ifMade_77 : decode cX6_ifMade 77 = .ok (.iload 4, 2) := by decide +kernel
theorem dX6_ifMade_79 : decode cX6_ifMade 79 = .ok (.istore 4, 2) := by decide +kernel
theorem dX6_ifMade_81 : decode cX6_ifMade 81 = .ok (.iinc 6 1, 3) := by decide +kernel
theorem dX6_ifMade_84 : decode cX6_ifMade 84 = .ok (.goto (-44), 3) := by decide +kernel
theorem dX6_ifMade_87 : decode cX6_ifMade 87 = .ok (.aload_n 0, 1) := by decide +kernel
theorem dX6_ifMade_88 : decode cX6_ifMade 88 = .ok (.getfield 7, 3) := by decide +kernel
theorem dX6_ifMade_91 : decode cX6_ifMade 91 = .ok (.iconst 2, 1) := by decide +kernel
theorem dX6_ifMade_92 : decode cX6_ifMade 92 = .ok (.iaload, 1) := by decide +kernel
theorem dX6_ifMade_93 : decode cX6_ifMade 93 = .ok (.aload_n 0, 1) := by decide +kernel
theorem dX6_ifMade_94 : decode cX6_ifMade 94 = .ok (.getfield 16, 3) := by decide +kernel
theorem dX6_ifMade_97 : decode cX6_ifMade 97 = .ok (.iconst 2, 1) := by decide +kernel
theorem dX6_ifMade_98 : decode cX6_ifMade 98 = .ok (.iaload, 1) := by decide +kernel
theorem dX6_ifMade_99 : decode cX6_ifMade 99 = .ok (.isub, 1) := by decide +kernel
theorem dX6_ifMade_100 : decode cX6_ifMade 100 = .ok (.istore 6, 2) := by decide +kernel
theorem dX6_ifMade_102 : decode cX6_ifMade 102 = .ok (.aload_n 0, 1) := by decide +kernel
theorem dX6_ifMade_103 : decode cX6_ifMade 103 = .ok (.invokevirtual 151, 3) := by decide +kernel
theorem dX6_ifMade_106 : decode cX6_ifMade 106 = .ok (.iload_n 2, 1) := by decide +kernel
theorem dX6_ifMade_107 : decode cX6_ifMade 107 = .ok (.ifCond .ne 7, 3) := by decide +kernel
theorem dX6_ifMade_110 : decode cX6_ifMade 110 = .ok (.iload_n 3, 1) := by decide +kernel
theorem dX6_ifMade_111 : decode cX6_ifMade 111 = .ok (.goto 25, 3) := by decide +kernel
theorem dX6_ifMade_114 : decode cX6_ifMade 114 = .ok (.iload_n 2, 1) := by decide +kernel
theorem dX6_ifMade_115 : decode cX6_ifMade 115 = .ok (.iconst 1, 1) := by decide +kernel
theorem dX6_ifMade_116 : decode cX6_ifMade 116 = .ok (.if_icmp .ne 8, 3) := by decide +kernel
theorem dX6_ifMade_119 : decode cX6_ifMade 119 = .ok (.iload 4, 2) := by decide +kernel
theorem dX6_ifMade_121 : decode cX6_ifMade 121 = .ok (.goto 15, 3) := by decide +kernel
theorem dX6_ifMade_124 : decode cX6_ifMade 124 = .ok (.iload_n 2, 1) := by decide +kernel
theorem dX6_ifMade_125 : decode cX6_ifMade 125 = .ok (.iconst 2, 1) := by decide +kernel
theorem dX6_ifMade_126 : decode cX6_ifMade 126 = .ok (.if_icmp .ne 8, 3) := by decide +kernel
theorem dX6_ifMade_129 : decode cX6_ifMade 129 = .ok (.iload 6, 2) := by decide +kernel
theorem dX6_ifMade_131 : decode cX6_ifMade 131 = .ok (.goto 5, 3) := by decide +kernel
theorem dX6_ifMade_134 : decode cX6_ifMade 134 = .ok (.iload 5, 2) := by decide +kernel
theorem dX6_ifMade_136 : decode cX6_ifMade 136 = .ok (.ireturn, 1) := by decide +kernel
set_option maxRecDepth 20000 in
theorem ggX6_untilClip_X6_keepTrial : GoodIn wsX6_untilClip wsX6_keepTrial := goodIn_r _ [7, 2, 1, 33, 34, 35, 36, 37, 38, 39, 40, 41, 42, 43, 44] (by decide +kernel) (by decide +kernel)
set_option maxRecDepth 20000 in
theorem gX6_untilClip_X6_keepTrial : GoodIn wsX6_untilClip (wsV RX6 148 RX6 yX6_keepTrial wsX6_keepTrial) := goodIn_app (goodIn_of _ (by decide +kernel)) ggX6_untilClip_X6_keepTrial
set_option maxRecDepth 20000 in
theorem ggX6_untilClip_X6_makes : GoodIn wsX6_untilClip wsX6_makes := goodIn_r _ [11, 1, 12, 13, 14, 15, 6, 16, 17, 18, 19, 20, 21, 22, 23, 24, 25, 26, 27, 28, 33, 34, 35, 36, 37, 38, 39, 40, 41, 42, 43, 44] (by decide +kernel) (by decide +kernel)
set_option maxRecDepth 20000 in
theorem gX6_untilClip_X6_makes : GoodIn wsX6_untilClip (wsV RX6 70 RX6 yX6_makes wsX6_makes) := goodIn_app (goodIn_of _ (by decide +kernel)) ggX6_untilClip_X6_makes
set_option maxRecDepth 20000 in
theorem ggX6_untilClip_X6_putBack : GoodIn wsX6_untilClip wsX6_putBack := goodIn_r _ [32, 1, 2, 33, 34, 35, 36, 37, 38, 39, 40, 41, 42, 43, 44] (by decide +kernel) (by decide +kernel)
set_option maxRecDepth 20000 in
theorem gX6_untilClip_X6_putBack : GoodIn wsX6_untilClip (wsV RX6 151 RX6 yX6_putBack wsX6_putBack) := goodIn_app (goodIn_of _ (by decide +kernel)) ggX6_untilClip_X6_putBack
theorem dX6_untilClip_0 : decode cX6_untilClip 0 = .ok (.aload_n 0, 1) := by decide +kernel
theorem dX6_untilClip_1 : decode cX6_untilClip 1 = .ok (.invokevirtual 148, 3) := by decide +kernel
theorem dX6_untilClip_4 : decode cX6_untilClip 4 = .ok (.iconst 0, 1) := by decide +kernel
theorem dX6_untilClip_5 : decode cX6_untilClip 5 = .ok (.istore_n 1, 1) := by decide +kernel
theorem dX6_untilClip_6 : decode cX6_untilClip 6 = .ok (.iconst 0, 1) := by decide +kernel
theorem dX6_untilClip_7 : decode cX6_untilClip 7 = .ok (.istore_n 2, 1) := by decide +kernel
theorem dX6_untilClip_8 : decode cX6_untilClip 8 = .ok (.iload_n 1, 1) := by decide +kernel
theorem dX6_untilClip_9 : decode cX6_untilClip 9 = .ok (.sipush 2000, 3) := by decide +kernel
theorem dX6_untilClip_12 : decode cX6_untilClip 12 = .ok (.if_icmp .ge 29, 3) := by decide +kernel
theorem dX6_untilClip_15 : decode cX6_untilClip 15 = .ok (.aload_n 0, 1) := by decide +kernel
theorem dX6_untilClip_16 : decode cX6_untilClip 16 = .ok (.getfield 7, 3) := by decide +kernel
theorem dX6_untilClip_19 : decode cX6_untilClip 19 = .ok (.iconst 2, 1) := by decide +kernel
theorem dX6_untilClip_20 : decode cX6_untilClip 20 = .ok (.iaload, 1) := by decide +kernel
theorem dX6_untilClip_21 : decode cX6_untilClip 21 = .ok (.aload_n 0, 1) := by decide +kernel
theorem dX6_untilClip_22 : decode cX6_untilClip 22 = .ok (.getfield 16, 3) := by decide +kernel
theorem dX6_untilClip_25 : decode cX6_untilClip 25 = .ok (.iconst 2, 1) := by decide +kernel
theorem dX6_untilClip_26 : decode cX6_untilClip 26 = .ok (.iaload, 1) := by decide +kernel
theorem dX6_untilClip_27 : decode cX6_untilClip 27 = .ok (.if_icmp .ne 14, 3) := by decide +kernel
theorem dX6_untilClip_30 : decode cX6_untilClip 30 = .ok (.aload_n 0, 1) := by decide +kernel
theorem dX6_untilClip_31 : decode cX6_untilClip 31 = .ok (.invokevirtual 70, 3) := by decide +kernel
theorem dX6_untilClip_34 : decode cX6_untilClip 34 = .ok (.istore_n 2, 1) := by decide +kernel
theorem dX6_untilClip_35 : decode cX6_untilClip 35 = .ok (.iinc 1 1, 3) := by decide +kernel
theorem dX6_untilClip_38 : decode cX6_untilClip 38 = .ok (.goto (-30), 3) := by decide +kernel
theorem dX6_untilClip_41 : decode cX6_untilClip 41 = .ok (.aload_n 0, 1) := by decide +kernel
theorem dX6_untilClip_42 : decode cX6_untilClip 42 = .ok (.getfield 7, 3) := by decide +kernel
theorem dX6_untilClip_45 : decode cX6_untilClip 45 = .ok (.iconst 2, 1) := by decide +kernel
theorem dX6_untilClip_46 : decode cX6_untilClip 46 = .ok (.iaload, 1) := by decide +kernel
theorem dX6_untilClip_47 : decode cX6_untilClip 47 = .ok (.aload_n 0, 1) := by decide +kernel
theorem dX6_untilClip_48 : decode cX6_untilClip 48 = .ok (.getfield 16, 3) := by decide +kernel
theorem dX6_untilClip_51 : decode cX6_untilClip 51 = .ok (.iconst 2, 1) := by decide +kernel
theorem dX6_untilClip_52 : decode cX6_untilClip 52 = .ok (.iaload, 1) := by decide +kernel
theorem dX6_untilClip_53 : decode cX6_untilClip 53 = .ok (.if_icmp .le 7, 3) := by decide +kernel
theorem dX6_untilClip_56 : decode cX6_untilClip 56 = .ok (.iconst 1, 1) := by decide +kernel
theorem dX6_untilClip_57 : decode cX6_untilClip 57 = .ok (.goto 4, 3) := by decide +kernel
theorem dX6_untilClip_60 : decode cX6_untilClip 60 = .ok (.iconst 0, 1) := by decide +kernel
theorem dX6_untilClip_61 : decode cX6_untilClip 61 = .ok (.istore_n 3, 1) := by decide +kernel
theorem dX6_untilClip_62 : decode cX6_untilClip 62 = .ok (.aload_n 0, 1) := by decide +kernel
theorem dX6_untilClip_63 : decode cX6_untilClip 63 = .ok (.invokevirtual 151, 3) := by decide +kernel
theorem dX6_untilClip_66 : decode cX6_untilClip 66 = .ok (.iload_n 3, 1) := by decide +kernel
theorem dX6_untilClip_67 : decode cX6_untilClip 67 = .ok (.ifCond .eq 7, 3) := by decide +kernel
theorem dX6_untilClip_70 : decode cX6_untilClip 70 = .ok (.iload_n 1, 1) := by decide +kernel
theorem dX6_untilClip_71 : decode cX6_untilClip 71 = .ok (.goto 5, 3) := by decide +kernel
theorem dX6_untilClip_74 : decode cX6_untilClip 74 = .ok (.bipush (-6), 2) := by decide +kernel
theorem dX6_untilClip_76 : decode cX6_untilClip 76 = .ok (.ireturn, 1) := by decide +kernel
set_option maxRecDepth 20000 in
theorem ggX6_bestStep_X6_in : GoodIn wsX6_bestStep wsX6_in := goodIn_r _ [7] (by decide +kernel) (by decide +kernel)
set_option maxRecDepth 20000 in
theorem gX6_bestStep_X6_in : GoodIn wsX6_bestStep (va_wsS RX6 40 yX6_in wsX6_in) := goodIn_app (goodIn_of _ (by decide +kernel)) ggX6_bestStep_X6_in
theorem dX6_bestStep_0 : decode cX6_bestStep 0 = .ok (.iload_n 1, 1) := by decide +kernel
theorem dX6_bestStep_1 : decode cX6_bestStep 1 = .ok (.iconst 2, 1) := by decide +kernel
theorem dX6_bestStep_2 : decode cX6_bestStep 2 = .ok (.ldc 51, 2) := by decide +kernel
theorem dX6_bestStep_4 : decode cX6_bestStep 4 = .ok (.invokestatic 40, 3) := by decide +kernel
theorem dX6_bestStep_7 : decode cX6_bestStep 7 = .ok (.ifCond .eq 12, 3) := by decide +kernel
theorem dX6_bestStep_10 : decode cX6_bestStep 10 = .ok (.iload_n 2, 1) := by decide +kernel
theorem dX6_bestStep_11 : decode cX6_bestStep 11 = .ok (.iconst 0, 1) := by decide +kernel
theorem dX6_bestStep_12 : decode cX6_bestStep 12 = .ok (.iconst 1, 1) := by decide +kernel
theorem dX6_bestStep_13 : decode cX6_bestStep 13 = .ok (.invokestatic 40, 3) := by decide +kernel
theorem dX6_bestStep_16 : decode cX6_bestStep 16 = .ok (.ifCond .ne 6, 3) := by decide +kernel
theorem dX6_bestStep_19 : decode cX6_bestStep 19 = .ok (.bipush (-2), 2) := by decide +kernel
theorem dX6_bestStep_21 : decode cX6_bestStep 21 = .ok (.ireturn, 1) := by decide +kernel
theorem dX6_bestStep_22 : decode cX6_bestStep 22 = .ok (.iconst 1, 1) := by decide +kernel
theorem dX6_bestStep_23 : decode cX6_bestStep 23 = .ok (.istore_n 3, 1) := by decide +kernel
theorem dX6_bestStep_24 : decode cX6_bestStep 24 = .ok (.ldc 154, 2) := by decide +kernel
theorem dX6_bestStep_26 : decode cX6_bestStep 26 = .ok (.istore 4, 2) := by decide +kernel
theorem dX6_bestStep_28 : decode cX6_bestStep 28 = .ok (.iconst 1, 1) := by decide +kernel
theorem dX6_bestStep_29 : decode cX6_bestStep 29 = .ok (.istore 5, 2) := by decide +kernel
theorem dX6_bestStep_31 : decode cX6_bestStep 31 = .ok (.iload 5, 2) := by decide +kernel
theorem dX6_bestStep_33 : decode cX6_bestStep 33 = .ok (.ldc 135, 2) := by decide +kernel
theorem dX6_bestStep_35 : decode cX6_bestStep 35 = .ok (.if_icmp .gt 66, 3) := by decide +kernel
theorem dX6_bestStep_38 : decode cX6_bestStep 38 = .ok (.ldc 51, 2) := by decide +kernel
theorem dX6_bestStep_40 : decode cX6_bestStep 40 = .ok (.iload 5, 2) := by decide +kernel
theorem dX6_bestStep_42 : decode cX6_bestStep 42 = .ok (.idiv, 1) := by decide +kernel
theorem dX6_bestStep_43 : decode cX6_bestStep 43 = .ok (.iload_n 1, 1) := by decide +kernel
theorem dX6_bestStep_44 : decode cX6_bestStep 44 = .ok (.isub, 1) := by decide +kernel
theorem dX6_bestStep_45 : decode cX6_bestStep 45 = .ok (.istore 6, 2) := by decide +kernel
theorem dX6_bestStep_47 : decode cX6_bestStep 47 = .ok (.iload 6, 2) := by decide +kernel
theorem dX6_bestStep_49 : decode cX6_bestStep 49 = .ok (.ifCond .ge 9, 3) := by decide +kernel
theorem dX6_bestStep_52 : decode cX6_bestStep 52 = .ok (.iload 6, 2) := by decide +kernel
theorem dX6_bestStep_54 : decode cX6_bestStep 54 = .ok (.ineg, 1) := by decide +kernel
theorem dX6_bestStep_55 : decode cX6_bestStep 55 = .ok (.goto 5, 3) := by decide +kernel
theorem dX6_bestStep_58 : decode cX6_bestStep 58 = .ok (.iload 6, 2) := by decide +kernel
theorem dX6_bestStep_60 : decode cX6_bestStep 60 = .ok (.istore 6, 2) := by decide +kernel
theorem dX6_bestStep_62 : decode cX6_bestStep 62 = .ok (.iload 6, 2) := by decide +kernel
theorem dX6_bestStep_64 : decode cX6_bestStep 64 = .ok (.iload 4, 2) := by decide +kernel
theorem dX6_bestStep_66 : decode cX6_bestStep 66 = .ok (.if_icmp .ge 8, 3) := by decide +kernel
theorem dX6_bestStep_69 : decode cX6_bestStep 69 = .ok (.iload 5, 2) := by decide +kernel
theorem dX6_bestStep_71 : decode cX6_bestStep 71 = .ok (.goto 4, 3) := by decide +kernel
theorem dX6_bestStep_74 : decode cX6_bestStep 74 = .ok (.iload_n 3, 1) := by decide +kernel
theorem dX6_bestStep_75 : decode cX6_bestStep 75 = .ok (.istore_n 3, 1) := by decide +kernel
theorem dX6_bestStep_76 : decode cX6_bestStep 76 = .ok (.iload 6, 2) := by decide +kernel
theorem dX6_bestStep_78 : decode cX6_bestStep 78 = .ok (.iload 4, 2) := by decide +kernel
theorem dX6_bestStep_80 : decode cX6_bestStep 80 = .ok (.if_icmp .ge 8, 3) := by decide +kernel
theorem dX6_bestStep_83 : decode cX6_bestStep 83 = .ok (.iload 6, 2) := by decide +kernel
theorem dX6_bestStep_85 : decode cX6_bestStep 85 = .ok (.goto 5, 3) := by decide +kernel
theorem dX6_bestStep_88 : decode cX6_bestStep 88 = .ok (.iload 4, 2) := by decide +kernel
theorem dX6_bestStep_90 : decode cX6_bestStep 90 = .ok (.istore 4, 2) := by decide +kernel
theorem dX6_bestStep_92 : decode cX6_bestStep 92 = .ok (.iload 5, 2) := by decide +kernel
theorem dX6_bestStep_94 : decode cX6_bestStep 94 = .ok (.iconst 2, 1) := by decide +kernel
theorem dX6_bestStep_95 : decode cX6_bestStep 95 = .ok (.imul, 1) := by decide +kernel
theorem dX6_bestStep_96 : decode cX6_bestStep 96 = .ok (.istore 5, 2) := by decide +kernel
theorem dX6_bestStep_98 : decode cX6_bestStep 98 = .ok (.goto (-67), 3) := by decide +kernel
theorem dX6_bestStep_101 : decode cX6_bestStep 101 = .ok (.iload_n 2, 1) := by decide +kernel
theorem dX6_bestStep_102 : decode cX6_bestStep 102 = .ok (.ifCond .ne 7, 3) := by decide +kernel
theorem dX6_bestStep_105 : decode cX6_bestStep 105 = .ok (.iload_n 3, 1) := by decide +kernel
theorem dX6_bestStep_106 : decode cX6_bestStep 106 = .ok (.goto 7, 3) := by decide +kernel
theorem dX6_bestStep_109 : decode cX6_bestStep 109 = .ok (.ldc 51, 2) := by decide +kernel
theorem dX6_bestStep_111 : decode cX6_bestStep 111 = .ok (.iload_n 3, 1) := by decide +kernel
theorem dX6_bestStep_112 : decode cX6_bestStep 112 = .ok (.idiv, 1) := by decide +kernel
theorem dX6_bestStep_113 : decode cX6_bestStep 113 = .ok (.ireturn, 1) := by decide +kernel
set_option maxRecDepth 20000 in
theorem ggX6_untilRound_X6_isOne : GoodIn wsX6_untilRound wsX6_isOne := goodIn_r _ [6, 7, 8, 5, 9] (by decide +kernel) (by decide +kernel)
set_option maxRecDepth 20000 in
theorem gX6_untilRound_X6_isOne : GoodIn wsX6_untilRound (va_wsS RX6 61 yX6_isOne wsX6_isOne) := goodIn_app (goodIn_of _ (by decide +kernel)) ggX6_untilRound_X6_isOne
set_option maxRecDepth 20000 in
theorem ggX6_untilRound_X6_keepTrial : GoodIn wsX6_untilRound wsX6_keepTrial := goodIn_r _ [13, 14, 2, 27, 28, 29, 30, 31, 32, 33, 34, 35, 36, 37, 38] (by decide +kernel) (by decide +kernel)
set_option maxRecDepth 20000 in
theorem gX6_untilRound_X6_keepTrial : GoodIn wsX6_untilRound (wsV RX6 148 RX6 yX6_keepTrial wsX6_keepTrial) := goodIn_app (goodIn_of _ (by decide +kernel)) ggX6_untilRound_X6_keepTrial
set_option maxRecDepth 20000 in
theorem ggX6_untilRound_X6_w : GoodIn wsX6_untilRound wsX6_w := goodIn_r _ [17] (by decide +kernel) (by decide +kernel)
set_option maxRecDepth 20000 in
theorem gX6_untilRound_X6_w : GoodIn wsX6_untilRound (va_wsS RX6 36 yX6_w wsX6_w) := goodIn_app (goodIn_of _ (by decide +kernel)) ggX6_untilRound_X6_w
set_option maxRecDepth 20000 in
theorem ggX6_untilRound_X6_goesOn : GoodIn wsX6_untilRound wsX6_goesOn := goodIn_r _ [21, 2, 22, 15, 16, 5, 17, 27, 28, 29, 30, 31, 32, 33, 34, 35, 36, 37, 38] (by decide +kernel) (by decide +kernel)
set_option maxRecDepth 20000 in
theorem gX6_untilRound_X6_goesOn : GoodIn wsX6_untilRound (wsV RX6 57 RX6 yX6_goesOn wsX6_goesOn) := goodIn_app (goodIn_of _ (by decide +kernel)) ggX6_untilRound_X6_goesOn
set_option maxRecDepth 20000 in
theorem ggX6_untilRound_X6_putBack : GoodIn wsX6_untilRound wsX6_putBack := goodIn_r _ [26, 2, 14, 27, 28, 29, 30, 31, 32, 33, 34, 35, 36, 37, 38] (by decide +kernel) (by decide +kernel)
set_option maxRecDepth 20000 in
theorem gX6_untilRound_X6_putBack : GoodIn wsX6_untilRound (wsV RX6 151 RX6 yX6_putBack wsX6_putBack) := goodIn_app (goodIn_of _ (by decide +kernel)) ggX6_untilRound_X6_putBack
theorem dX6_untilRound_0 : decode cX6_untilRound 0 = .ok (.iload_n 1, 1) := by decide +kernel
theorem dX6_untilRound_1 : decode cX6_untilRound 1 = .ok (.invokestatic 61, 3) := by decide +kernel
theorem dX6_untilRound_4 : decode cX6_untilRound 4 = .ok (.ifCond .ne 5, 3) := by decide +kernel
theorem dX6_untilRound_7 : decode cX6_untilRound 7 = .ok (.iconst (-1), 1) := by decide +kernel
theorem dX6_untilRound_8 : decode cX6_untilRound 8 = .ok (.ireturn, 1) := by decide +kernel
theorem dX6_untilRound_9 : decode cX6_untilRound 9 = .ok (.aload_n 0, 1) := by decide +kernel
theorem dX6_untilRound_10 : decode cX6_untilRound 10 = .ok (.invokevirtual 148, 3) := by decide +kernel
theorem dX6_untilRound_13 : decode cX6_untilRound 13 = .ok (.iconst 0, 1) := by decide +kernel
theorem dX6_untilRound_14 : decode cX6_untilRound 14 = .ok (.istore_n 2, 1) := by decide +kernel
theorem dX6_untilRound_15 : decode cX6_untilRound 15 = .ok (.iconst 0, 1) := by decide +kernel
theorem dX6_untilRound_16 : decode cX6_untilRound 16 = .ok (.istore_n 3, 1) := by decide +kernel
theorem dX6_untilRound_17 : decode cX6_untilRound 17 = .ok (.iload_n 2, 1) := by decide +kernel
theorem dX6_untilRound_18 : decode cX6_untilRound 18 = .ok (.ldc 155, 2) := by decide +kernel
theorem dX6_untilRound_20 : decode cX6_untilRound 20 = .ok (.if_icmp .ge 53, 3) := by decide +kernel
theorem dX6_untilRound_23 : decode cX6_untilRound 23 = .ok (.iload_n 3, 1) := by decide +kernel
theorem dX6_untilRound_24 : decode cX6_untilRound 24 = .ok (.ifCond .ne 49, 3) := by decide +kernel
theorem dX6_untilRound_27 : decode cX6_untilRound 27 = .ok (.aload_n 0, 1) := by decide +kernel
theorem dX6_untilRound_28 : decode cX6_untilRound 28 = .ok (.getfield 7, 3) := by decide +kernel
theorem dX6_untilRound_31 : decode cX6_untilRound 31 = .ok (.iload_n 1, 1) := by decide +kernel
theorem dX6_untilRound_32 : decode cX6_untilRound 32 = .ok (.invokestatic 36, 3) := by decide +kernel
theorem dX6_untilRound_35 : decode cX6_untilRound 35 = .ok (.iconst 0, 1) := by decide +kernel
theorem dX6_untilRound_36 : decode cX6_untilRound 36 = .ok (.iadd, 1) := by decide +kernel
theorem dX6_untilRound_37 : decode cX6_untilRound 37 = .ok (.iaload, 1) := by decide +kernel
theorem dX6_untilRound_38 : decode cX6_untilRound 38 = .ok (.istore 4, 2) := by decide +kernel
theorem dX6_untilRound_40 : decode cX6_untilRound 40 = .ok (.aload_n 0, 1) := by decide +kernel
theorem dX6_untilRound_41 : decode cX6_untilRound 41 = .ok (.iload_n 1, 1) := by decide +kernel
theorem dX6_untilRound_42 : decode cX6_untilRound 42 = .ok (.invokevirtual 57, 3) := by decide +kernel
theorem dX6_untilRound_45 : decode cX6_untilRound 45 = .ok (.iinc 2 1, 3) := by decide +kernel
theorem dX6_untilRound_48 : decode cX6_untilRound 48 = .ok (.aload_n 0, 1) := by decide +kernel
theorem dX6_untilRound_49 : decode cX6_untilRound 49 = .ok (.getfield 7, 3) := by decide +kernel
theorem dX6_untilRound_52 : decode cX6_untilRound 52 = .ok (.iload_n 1, 1) := by decide +kernel
theorem dX6_untilRound_53 : decode cX6_untilRound 53 = .ok (.invokestatic 36, 3) := by decide +kernel
theorem dX6_untilRound_56 : decode cX6_untilRound 56 = .ok (.iconst 0, 1) := by decide +kernel
theorem dX6_untilRound_57 : decode cX6_untilRound 57 = .ok (.iadd, 1) := by decide +kernel
theorem dX6_untilRound_58 : decode cX6_untilRound 58 = .ok (.iaload, 1) := by decide +kernel
theorem dX6_untilRound_59 : decode cX6_untilRound 59 = .ok (.iload 4, 2) := by decide +kernel
theorem dX6_untilRound_61 : decode cX6_untilRound 61 = .ok (.if_icmp .ge 7, 3) := by decide +kernel
theorem dX6_untilRound_64 : decode cX6_untilRound 64 = .ok (.iconst 1, 1) := by decide +kernel
theorem dX6_untilRound_65 : decode cX6_untilRound 65 = .ok (.goto 4, 3) := by decide +kernel
theorem dX6_untilRound_68 : decode cX6_untilRound 68 = .ok (.iconst 0, 1) := by decide +kernel
theorem dX6_untilRound_69 : decode cX6_untilRound 69 = .ok (.istore_n 3, 1) := by decide +kernel
theorem dX6_untilRound_70 : decode cX6_untilRound 70 = .ok (.goto (-53), 3) := by decide +kernel
theorem dX6_untilRound_73 : decode cX6_untilRound 73 = .ok (.aload_n 0, 1) := by decide +kernel
theorem dX6_untilRound_74 : decode cX6_untilRound 74 = .ok (.invokevirtual 151, 3) := by decide +kernel
theorem dX6_untilRound_77 : decode cX6_untilRound 77 = .ok (.iload_n 3, 1) := by decide +kernel
theorem dX6_untilRound_78 : decode cX6_untilRound 78 = .ok (.ifCond .eq 7, 3) := by decide +kernel
theorem dX6_untilRound_81 : decode cX6_untilRound 81 = .ok (.iload_n 2, 1) := by decide +kernel
theorem dX6_untilRound_82 : decode cX6_untilRound 82 = .ok (.goto 5, 3) := by decide +kernel
theorem dX6_untilRound_85 : decode cX6_untilRound 85 = .ok (.bipush (-6), 2) := by decide +kernel
theorem dX6_untilRound_87 : decode cX6_untilRound 87 = .ok (.ireturn, 1) := by decide +kernel
theorem dX6_put_0 : decode cX6_put 0 = .ok (.iconst 0, 1) := by decide +kernel
theorem dX6_put_1 : decode cX6_put 1 = .ok (.istore_n 3, 1) := by decide +kernel
theorem dX6_put_2 : decode cX6_put 2 = .ok (.lload_n 1, 1) := by decide +kernel
theorem dX6_put_3 : decode cX6_put 3 = .ok (.lstore 4, 2) := by decide +kernel
theorem dX6_put_5 : decode cX6_put 5 = .ok (.iload_n 3, 1) := by decide +kernel
theorem dX6_put_6 : decode cX6_put 6 = .ok (.bipush 8, 2) := by decide +kernel
theorem dX6_put_8 : decode cX6_put 8 = .ok (.if_icmp .ge 52, 3) := by decide +kernel
theorem dX6_put_11 : decode cX6_put 11 = .ok (.lload 4, 2) := by decide +kernel
theorem dX6_put_13 : decode cX6_put 13 = .ok (.lconst 0, 1) := by decide +kernel
theorem dX6_put_14 : decode cX6_put 14 = .ok (.lcmp, 1) := by decide +kernel
theorem dX6_put_15 : decode cX6_put 15 = .ok (.ifCond .eq 45, 3) := by decide +kernel
theorem dX6_put_18 : decode cX6_put 18 = .ok (.lload 4, 2) := by decide +kernel
theorem dX6_put_20 : decode cX6_put 20 = .ok (.ldc2_w 156, 3) := by decide +kernel
theorem dX6_put_23 : decode cX6_put 23 = .ok (.land, 1) := by decide +kernel
theorem dX6_put_24 : decode cX6_put 24 = .ok (.lstore 6, 2) := by decide +kernel
theorem dX6_put_26 : decode cX6_put 26 = .ok (.lload 6, 2) := by decide +kernel
theorem dX6_put_28 : decode cX6_put 28 = .ok (.ldc2_w 158, 3) := by decide +kernel
theorem dX6_put_31 : decode cX6_put 31 = .ok (.lcmp, 1) := by decide +kernel
theorem dX6_put_32 : decode cX6_put 32 = .ok (.ifCond .lt 12, 3) := by decide +kernel
theorem dX6_put_35 : decode cX6_put 35 = .ok (.lload 6, 2) := by decide +kernel
theorem dX6_put_37 : decode cX6_put 37 = .ok (.ldc2_w 160, 3) := by decide +kernel
theorem dX6_put_40 : decode cX6_put 40 = .ok (.lcmp, 1) := by decide +kernel
theorem dX6_put_41 : decode cX6_put 41 = .ok (.ifCond .le 6, 3) := by decide +kernel
theorem dX6_put_44 : decode cX6_put 44 = .ok (.bipush (-2), 2) := by decide +kernel
theorem dX6_put_46 : decode cX6_put 46 = .ok (.ireturn, 1) := by decide +kernel
theorem dX6_put_47 : decode cX6_put 47 = .ok (.lload 4, 2) := by decide +kernel
theorem dX6_put_49 : decode cX6_put 49 = .ok (.bipush 8, 2) := by decide +kernel
theorem dX6_put_51 : decode cX6_put 51 = .ok (.lushr, 1) := by decide +kernel
theorem dX6_put_52 : decode cX6_put 52 = .ok (.lstore 4, 2) := by decide +kernel
theorem dX6_put_54 : decode cX6_put 54 = .ok (.iinc 3 1, 3) := by decide +kernel
theorem dX6_put_57 : decode cX6_put 57 = .ok (.goto (-52), 3) := by decide +kernel
theorem dX6_put_60 : decode cX6_put 60 = .ok (.iload_n 3, 1) := by decide +kernel
theorem dX6_put_61 : decode cX6_put 61 = .ok (.ifCond .ne 6, 3) := by decide +kernel
theorem dX6_put_64 : decode cX6_put 64 = .ok (.bipush (-2), 2) := by decide +kernel
theorem dX6_put_66 : decode cX6_put 66 = .ok (.ireturn, 1) := by decide +kernel
theorem dX6_put_67 : decode cX6_put 67 = .ok (.aload_n 0, 1) := by decide +kernel
theorem dX6_put_68 : decode cX6_put 68 = .ok (.getfield 102, 3) := by decide +kernel
theorem dX6_put_71 : decode cX6_put 71 = .ok (.iload_n 3, 1) := by decide +kernel
theorem dX6_put_72 : decode cX6_put 72 = .ok (.iadd, 1) := by decide +kernel
theorem dX6_put_73 : decode cX6_put 73 = .ok (.bipush 60, 2) := by decide +kernel
theorem dX6_put_75 : decode cX6_put 75 = .ok (.if_icmp .le 6, 3) := by decide +kernel
theorem dX6_put_78 : decode cX6_put 78 = .ok (.bipush (-4), 2) := by decide +kernel
theorem dX6_put_80 : decode cX6_put 80 = .ok (.ireturn, 1) := by decide +kernel
theorem dX6_put_81 : decode cX6_put 81 = .ok (.iload_n 3, 1) := by decide +kernel
theorem dX6_put_82 : decode cX6_put 82 = .ok (.iconst 1, 1) := by decide +kernel
theorem dX6_put_83 : decode cX6_put 83 = .ok (.isub, 1) := by decide +kernel
theorem dX6_put_84 : decode cX6_put 84 = .ok (.istore 6, 2) := by decide +kernel
theorem dX6_put_86 : decode cX6_put 86 = .ok (.iload 6, 2) := by decide +kernel
theorem dX6_put_88 : decode cX6_put 88 = .ok (.ifCond .lt 41, 3) := by decide +kernel
theorem dX6_put_91 : decode cX6_put 91 = .ok (.aload_n 0, 1) := by decide +kernel
theorem dX6_put_92 : decode cX6_put 92 = .ok (.getfield 32, 3) := by decide +kernel
theorem dX6_put_95 : decode cX6_put 95 = .ok (.aload_n 0, 1) := by decide +kernel
theorem dX6_put_96 : decode cX6_put 96 = .ok (.getfield 102, 3) := by decide +kernel
theorem dX6_put_99 : decode cX6_put 99 = .ok (.lload_n 1, 1) := by decide +kernel
theorem dX6_put_100 : decode cX6_put 100 = .ok (.bipush 8, 2) := by decide +kernel
theorem dX6_put_102 : decode cX6_put 102 = .ok (.iload 6, 2) := by decide +kernel
theorem dX6_put_104 : decode cX6_put 104 = .ok (.imul, 1) := by decide +kernel
theorem dX6_put_105 : decode cX6_put 105 = .ok (.lushr, 1) := by decide +kernel
theorem dX6_put_106 : decode cX6_put 106 = .ok (.ldc2_w 156, 3) := by decide +kernel
theorem dX6_put_109 : decode cX6_put 109 = .ok (.land, 1) := by decide +kernel
theorem dX6_put_110 : decode cX6_put 110 = .ok (.l2i, 1) := by decide +kernel
theorem dX6_put_111 : decode cX6_put 111 = .ok (.i2c, 1) := by decide +kernel
theorem dX6_put_112 : decode cX6_put 112 = .ok (.castore, 1) := by decide +kernel
theorem dX6_put_113 : decode cX6_put 113 = .ok (.aload_n 0, 1) := by decide +kernel
theorem dX6_put_114 : decode cX6_put 114 = .ok (.dup, 1) := by decide +kernel
theorem dX6_put_115 : decode cX6_put 115 = .ok (.getfield 102, 3) := by decide +kernel
theorem dX6_put_118 : decode cX6_put 118 = .ok (.iconst 1, 1) := by decide +kernel
theorem dX6_put_119 : decode cX6_put 119 = .ok (.iadd, 1) := by decide +kernel
theorem dX6_put_120 : decode cX6_put 120 = .ok (.putfield 102, 3) := by decide +kernel
theorem dX6_put_123 : decode cX6_put 123 = .ok (.iinc 6 (-1), 3) := by decide +kernel
theorem dX6_put_126 : decode cX6_put 126 = .ok (.goto (-40), 3) := by decide +kernel
theorem dX6_put_129 : decode cX6_put 129 = .ok (.aload_n 0, 1) := by decide +kernel
theorem dX6_put_130 : decode cX6_put 130 = .ok (.getfield 102, 3) := by decide +kernel
theorem dX6_put_133 : decode cX6_put 133 = .ok (.ireturn, 1) := by decide +kernel
theorem dX6_wipe_0 : decode cX6_wipe 0 = .ok (.aload_n 0, 1) := by decide +kernel
theorem dX6_wipe_1 : decode cX6_wipe 1 = .ok (.getfield 102, 3) := by decide +kernel
theorem dX6_wipe_4 : decode cX6_wipe 4 = .ok (.istore_n 1, 1) := by decide +kernel
theorem dX6_wipe_5 : decode cX6_wipe 5 = .ok (.aload_n 0, 1) := by decide +kernel
theorem dX6_wipe_6 : decode cX6_wipe 6 = .ok (.iconst 0, 1) := by decide +kernel
theorem dX6_wipe_7 : decode cX6_wipe 7 = .ok (.putfield 102, 3) := by decide +kernel
theorem dX6_wipe_10 : decode cX6_wipe 10 = .ok (.iload_n 1, 1) := by decide +kernel
theorem dX6_wipe_11 : decode cX6_wipe 11 = .ok (.ireturn, 1) := by decide +kernel
set_option maxRecDepth 20000 in
theorem ggX6_fault_X6_faultOf : GoodIn wsX6_fault wsX6_faultOf := goodIn_r _ [5, 6, 7, 8, 9, 10, 11, 4, 12, 13, 14, 15, 16, 17, 18, 19, 20, 21, 22, 23, 24, 25, 26, 27, 28, 29, 30, 31, 32, 33, 34, 35, 36, 37, 38, 39, 40, 41, 42, 43, 44, 45, 46, 47] (by decide +kernel) (by decide +kernel)
set_option maxRecDepth 20000 in
theorem gX6_fault_X6_faultOf : GoodIn wsX6_fault (wsV RX6 129 RX6 yX6_faultOf wsX6_faultOf) := goodIn_app (goodIn_of _ (by decide +kernel)) ggX6_fault_X6_faultOf
theorem dX6_fault_0 : decode cX6_fault 0 = .ok (.aload_n 0, 1) := by decide +kernel
theorem dX6_fault_1 : decode cX6_fault 1 = .ok (.invokevirtual 129, 3) := by decide +kernel
theorem dX6_fault_4 : decode cX6_fault 4 = .ok (.istore_n 1, 1) := by decide +kernel
theorem dX6_fault_5 : decode cX6_fault 5 = .ok (.iload_n 1, 1) := by decide +kernel
theorem dX6_fault_6 : decode cX6_fault 6 = .ok (.ifCond .ge 8, 3) := by decide +kernel
theorem dX6_fault_9 : decode cX6_fault 9 = .ok (.bipush (-6), 2) := by decide +kernel
theorem dX6_fault_11 : decode cX6_fault 11 = .ok (.goto 4, 3) := by decide +kernel
theorem dX6_fault_14 : decode cX6_fault 14 = .ok (.iload_n 1, 1) := by decide +kernel
theorem dX6_fault_15 : decode cX6_fault 15 = .ok (.ireturn, 1) := by decide +kernel
theorem dX6_undo_0 : decode cX6_undo 0 = .ok (.aload_n 0, 1) := by decide +kernel
theorem dX6_undo_1 : decode cX6_undo 1 = .ok (.getfield 44, 3) := by decide +kernel
theorem dX6_undo_4 : decode cX6_undo 4 = .ok (.ifCond .ne 6, 3) := by decide +kernel
theorem dX6_undo_7 : decode cX6_undo 7 = .ok (.bipush (-5), 2) := by decide +kernel
theorem dX6_undo_9 : decode cX6_undo 9 = .ok (.ireturn, 1) := by decide +kernel
theorem dX6_undo_10 : decode cX6_undo 10 = .ok (.aload_n 0, 1) := by decide +kernel
theorem dX6_undo_11 : decode cX6_undo 11 = .ok (.dup, 1) := by decide +kernel
theorem dX6_undo_12 : decode cX6_undo 12 = .ok (.getfield 44, 3) := by decide +kernel
theorem dX6_undo_15 : decode cX6_undo 15 = .ok (.iconst 1, 1) := by decide +kernel
theorem dX6_undo_16 : decode cX6_undo 16 = .ok (.isub, 1) := by decide +kernel
theorem dX6_undo_17 : decode cX6_undo 17 = .ok (.putfield 44, 3) := by decide +kernel
theorem dX6_undo_20 : decode cX6_undo 20 = .ok (.iconst 0, 1) := by decide +kernel
theorem dX6_undo_21 : decode cX6_undo 21 = .ok (.istore_n 1, 1) := by decide +kernel
theorem dX6_undo_22 : decode cX6_undo 22 = .ok (.iload_n 1, 1) := by decide +kernel
theorem dX6_undo_23 : decode cX6_undo 23 = .ok (.sipush 166, 3) := by decide +kernel
theorem dX6_undo_26 : decode cX6_undo 26 = .ok (.if_icmp .ge 30, 3) := by decide +kernel
theorem dX6_undo_29 : decode cX6_undo 29 = .ok (.aload_n 0, 1) := by decide +kernel
theorem dX6_undo_30 : decode cX6_undo 30 = .ok (.getfield 7, 3) := by decide +kernel
theorem dX6_undo_33 : decode cX6_undo 33 = .ok (.iload_n 1, 1) := by decide +kernel
theorem dX6_undo_34 : decode cX6_undo 34 = .ok (.aload_n 0, 1) := by decide +kernel
theorem dX6_undo_35 : decode cX6_undo 35 = .ok (.getfield 19, 3) := by decide +kernel
theorem dX6_undo_38 : decode cX6_undo 38 = .ok (.sipush 166, 3) := by decide +kernel
theorem dX6_undo_41 : decode cX6_undo 41 = .ok (.aload_n 0, 1) := by decide +kernel
theorem dX6_undo_42 : decode cX6_undo 42 = .ok (.getfield 44, 3) := by decide +kernel
theorem dX6_undo_45 : decode cX6_undo 45 = .ok (.imul, 1) := by decide +kernel
theorem dX6_undo_46 : decode cX6_undo 46 = .ok (.iload_n 1, 1) := by decide +kernel
theorem dX6_undo_47 : decode cX6_undo 47 = .ok (.iadd, 1) := by decide +kernel
theorem dX6_undo_48 : decode cX6_undo 48 = .ok (.iaload, 1) := by decide +kernel
theorem dX6_undo_49 : decode cX6_undo 49 = .ok (.iastore, 1) := by decide +kernel
theorem dX6_undo_50 : decode cX6_undo 50 = .ok (.iinc 1 1, 3) := by decide +kernel
theorem dX6_undo_53 : decode cX6_undo 53 = .ok (.goto (-31), 3) := by decide +kernel
theorem dX6_undo_56 : decode cX6_undo 56 = .ok (.aload_n 0, 1) := by decide +kernel
theorem dX6_undo_57 : decode cX6_undo 57 = .ok (.getfield 44, 3) := by decide +kernel
theorem dX6_undo_60 : decode cX6_undo 60 = .ok (.ireturn, 1) := by decide +kernel
set_option maxRecDepth 20000 in
theorem ggX6_save_X6_in : GoodIn wsX6_save wsX6_in := goodIn_r _ [7] (by decide +kernel) (by decide +kernel)
set_option maxRecDepth 20000 in
theorem gX6_save_X6_in : GoodIn wsX6_save (va_wsS RX6 40 yX6_in wsX6_in) := goodIn_app (goodIn_of _ (by decide +kernel)) ggX6_save_X6_in
theorem dX6_save_0 : decode cX6_save 0 = .ok (.iload_n 1, 1) := by decide +kernel
theorem dX6_save_1 : decode cX6_save 1 = .ok (.iconst 0, 1) := by decide +kernel
theorem dX6_save_2 : decode cX6_save 2 = .ok (.iconst 1, 1) := by decide +kernel
theorem dX6_save_3 : decode cX6_save 3 = .ok (.invokestatic 40, 3) := by decide +kernel
theorem dX6_save_6 : decode cX6_save 6 = .ok (.ifCond .ne 6, 3) := by decide +kernel
theorem dX6_save_9 : decode cX6_save 9 = .ok (.bipush (-2), 2) := by decide +kernel
theorem dX6_save_11 : decode cX6_save 11 = .ok (.ireturn, 1) := by decide +kernel
theorem dX6_save_12 : decode cX6_save 12 = .ok (.iconst 0, 1) := by decide +kernel
theorem dX6_save_13 : decode cX6_save 13 = .ok (.istore_n 2, 1) := by decide +kernel
theorem dX6_save_14 : decode cX6_save 14 = .ok (.iload_n 2, 1) := by decide +kernel
theorem dX6_save_15 : decode cX6_save 15 = .ok (.sipush 166, 3) := by decide +kernel
theorem dX6_save_18 : decode cX6_save 18 = .ok (.if_icmp .ge 27, 3) := by decide +kernel
theorem dX6_save_21 : decode cX6_save 21 = .ok (.aload_n 0, 1) := by decide +kernel
theorem dX6_save_22 : decode cX6_save 22 = .ok (.getfield 22, 3) := by decide +kernel
theorem dX6_save_25 : decode cX6_save 25 = .ok (.sipush 166, 3) := by decide +kernel
theorem dX6_save_28 : decode cX6_save 28 = .ok (.iload_n 1, 1) := by decide +kernel
theorem dX6_save_29 : decode cX6_save 29 = .ok (.imul, 1) := by decide +kernel
theorem dX6_save_30 : decode cX6_save 30 = .ok (.iload_n 2, 1) := by decide +kernel
theorem dX6_save_31 : decode cX6_save 31 = .ok (.iadd, 1) := by decide +kernel
theorem dX6_save_32 : decode cX6_save 32 = .ok (.aload_n 0, 1) := by decide +kernel
theorem dX6_save_33 : decode cX6_save 33 = .ok (.getfield 7, 3) := by decide +kernel
theorem dX6_save_36 : decode cX6_save 36 = .ok (.iload_n 2, 1) := by decide +kernel
theorem dX6_save_37 : decode cX6_save 37 = .ok (.iaload, 1) := by decide +kernel
theorem dX6_save_38 : decode cX6_save 38 = .ok (.iastore, 1) := by decide +kernel
theorem dX6_save_39 : decode cX6_save 39 = .ok (.iinc 2 1, 3) := by decide +kernel
theorem dX6_save_42 : decode cX6_save 42 = .ok (.goto (-28), 3) := by decide +kernel
theorem dX6_save_45 : decode cX6_save 45 = .ok (.aload_n 0, 1) := by decide +kernel
theorem dX6_save_46 : decode cX6_save 46 = .ok (.getfield 25, 3) := by decide +kernel
theorem dX6_save_49 : decode cX6_save 49 = .ok (.iload_n 1, 1) := by decide +kernel
theorem dX6_save_50 : decode cX6_save 50 = .ok (.iconst 1, 1) := by decide +kernel
theorem dX6_save_51 : decode cX6_save 51 = .ok (.bastore, 1) := by decide +kernel
theorem dX6_save_52 : decode cX6_save 52 = .ok (.aload_n 0, 1) := by decide +kernel
theorem dX6_save_53 : decode cX6_save 53 = .ok (.getfield 7, 3) := by decide +kernel
theorem dX6_save_56 : decode cX6_save 56 = .ok (.iconst 1, 1) := by decide +kernel
theorem dX6_save_57 : decode cX6_save 57 = .ok (.iaload, 1) := by decide +kernel
theorem dX6_save_58 : decode cX6_save 58 = .ok (.ireturn, 1) := by decide +kernel
set_option maxRecDepth 20000 in
theorem ggX6_restore_X6_in : GoodIn wsX6_restore wsX6_in := goodIn_r _ [7] (by decide +kernel) (by decide +kernel)
set_option maxRecDepth 20000 in
theorem gX6_restore_X6_in : GoodIn wsX6_restore (va_wsS RX6 40 yX6_in wsX6_in) := goodIn_app (goodIn_of _ (by decide +kernel)) ggX6_restore_X6_in
set_option maxRecDepth 20000 in
theorem ggX6_restore_X6_hold : GoodIn wsX6_restore wsX6_hold := goodIn_r _ [11, 12, 2, 19, 20, 21, 22, 23, 24, 25, 26, 27, 28, 29, 30] (by decide +kernel) (by decide +kernel)
set_option maxRecDepth 20000 in
theorem gX6_restore_X6_hold : GoodIn wsX6_restore (wsV RX6 73 RX6 yX6_hold wsX6_hold) := goodIn_app (goodIn_of _ (by decide +kernel)) ggX6_restore_X6_hold
set_option maxRecDepth 20000 in
theorem ggX6_restore_X6_recorded : GoodIn wsX6_restore wsX6_recorded := goodIn_r _ [16, 17, 18, 12, 19, 20, 21, 22, 23, 24, 25, 26, 27, 28, 29, 30] (by decide +kernel) (by decide +kernel)
set_option maxRecDepth 20000 in
theorem gX6_restore_X6_recorded : GoodIn wsX6_restore (wsV RX6 76 RX6 yX6_recorded wsX6_recorded) := goodIn_app (goodIn_of _ (by decide +kernel)) ggX6_restore_X6_recorded
theorem dX6_restore_0 : decode cX6_restore 0 = .ok (.iload_n 1, 1) := by decide +kernel
theorem dX6_restore_1 : decode cX6_restore 1 = .ok (.iconst 0, 1) := by decide +kernel
theorem dX6_restore_2 : decode cX6_restore 2 = .ok (.iconst 1, 1) := by decide +kernel
theorem dX6_restore_3 : decode cX6_restore 3 = .ok (.invokestatic 40, 3) := by decide +kernel
theorem dX6_restore_6 : decode cX6_restore 6 = .ok (.ifCond .ne 6, 3) := by decide +kernel
theorem dX6_restore_9 : decode cX6_restore 9 = .ok (.bipush (-2), 2) := by decide +kernel
theorem dX6_restore_11 : decode cX6_restore 11 = .ok (.ireturn, 1) := by decide +kernel
theorem dX6_restore_12 : decode cX6_restore 12 = .ok (.aload_n 0, 1) := by decide +kernel
theorem dX6_restore_13 : decode cX6_restore 13 = .ok (.getfield 25, 3) := by decide +kernel
theorem dX6_restore_16 : decode cX6_restore 16 = .ok (.iload_n 1, 1) := by decide +kernel
theorem dX6_restore_17 : decode cX6_restore 17 = .ok (.baload, 1) := by decide +kernel
theorem dX6_restore_18 : decode cX6_restore 18 = .ok (.ifCond .ne 6, 3) := by decide +kernel
theorem dX6_restore_21 : decode cX6_restore 21 = .ok (.bipush (-5), 2) := by decide +kernel
theorem dX6_restore_23 : decode cX6_restore 23 = .ok (.ireturn, 1) := by decide +kernel
theorem dX6_restore_24 : decode cX6_restore 24 = .ok (.aload_n 0, 1) := by decide +kernel
theorem dX6_restore_25 : decode cX6_restore 25 = .ok (.invokevirtual 73, 3) := by decide +kernel
theorem dX6_restore_28 : decode cX6_restore 28 = .ok (.iconst 0, 1) := by decide +kernel
theorem dX6_restore_29 : decode cX6_restore 29 = .ok (.istore_n 2, 1) := by decide +kernel
theorem dX6_restore_30 : decode cX6_restore 30 = .ok (.iload_n 2, 1) := by decide +kernel
theorem dX6_restore_31 : decode cX6_restore 31 = .ok (.sipush 166, 3) := by decide +kernel
theorem dX6_restore_34 : decode cX6_restore 34 = .ok (.if_icmp .ge 27, 3) := by decide +kernel
theorem dX6_restore_37 : decode cX6_restore 37 = .ok (.aload_n 0, 1) := by decide +kernel
theorem dX6_restore_38 : decode cX6_restore 38 = .ok (.getfield 7, 3) := by decide +kernel
theorem dX6_restore_41 : decode cX6_restore 41 = .ok (.iload_n 2, 1) := by decide +kernel
theorem dX6_restore_42 : decode cX6_restore 42 = .ok (.aload_n 0, 1) := by decide +kernel
theorem dX6_restore_43 : decode cX6_restore 43 = .ok (.getfield 22, 3) := by decide +kernel
theorem dX6_restore_46 : decode cX6_restore 46 = .ok (.sipush 166, 3) := by decide +kernel
theorem dX6_restore_49 : decode cX6_restore 49 = .ok (.iload_n 1, 1) := by decide +kernel
theorem dX6_restore_50 : decode cX6_restore 50 = .ok (.imul, 1) := by decide +kernel
theorem dX6_restore_51 : decode cX6_restore 51 = .ok (.iload_n 2, 1) := by decide +kernel
theorem dX6_restore_52 : decode cX6_restore 52 = .ok (.iadd, 1) := by decide +kernel
theorem dX6_restore_53 : decode cX6_restore 53 = .ok (.iaload, 1) := by decide +kernel
theorem dX6_restore_54 : decode cX6_restore 54 = .ok (.iastore, 1) := by decide +kernel
theorem dX6_restore_55 : decode cX6_restore 55 = .ok (.iinc 2 1, 3) := by decide +kernel
theorem dX6_restore_58 : decode cX6_restore 58 = .ok (.goto (-28), 3) := by decide +kernel
theorem dX6_restore_61 : decode cX6_restore 61 = .ok (.aload_n 0, 1) := by decide +kernel
theorem dX6_restore_62 : decode cX6_restore 62 = .ok (.aload_n 0, 1) := by decide +kernel
theorem dX6_restore_63 : decode cX6_restore 63 = .ok (.getfield 7, 3) := by decide +kernel
theorem dX6_restore_66 : decode cX6_restore 66 = .ok (.iconst 1, 1) := by decide +kernel
theorem dX6_restore_67 : decode cX6_restore 67 = .ok (.iaload, 1) := by decide +kernel
theorem dX6_restore_68 : decode cX6_restore 68 = .ok (.invokevirtual 76, 3) := by decide +kernel
theorem dX6_restore_71 : decode cX6_restore 71 = .ok (.ireturn, 1) := by decide +kernel
theorem dJ6_bitCount_0f7a4_0 : decode cJ6_bitCount_0f7a4 0 = .ok (.iload_n 0, 1) := by decide +kernel
theorem dJ6_bitCount_0f7a4_1 : decode cJ6_bitCount_0f7a4 1 = .ok (.iload_n 0, 1) := by decide +kernel
theorem dJ6_bitCount_0f7a4_2 : decode cJ6_bitCount_0f7a4 2 = .ok (.iconst 1, 1) := by decide +kernel
theorem dJ6_bitCount_0f7a4_3 : decode cJ6_bitCount_0f7a4 3 = .ok (.iushr, 1) := by decide +kernel
theorem dJ6_bitCount_0f7a4_4 : decode cJ6_bitCount_0f7a4 4 = .ok (.ldc_w 265, 3) := by decide +kernel
theorem dJ6_bitCount_0f7a4_7 : decode cJ6_bitCount_0f7a4 7 = .ok (.iand, 1) := by decide +kernel
theorem dJ6_bitCount_0f7a4_8 : decode cJ6_bitCount_0f7a4 8 = .ok (.isub, 1) := by decide +kernel
theorem dJ6_bitCount_0f7a4_9 : decode cJ6_bitCount_0f7a4 9 = .ok (.istore_n 0, 1) := by decide +kernel
theorem dJ6_bitCount_0f7a4_10 : decode cJ6_bitCount_0f7a4 10 = .ok (.iload_n 0, 1) := by decide +kernel
theorem dJ6_bitCount_0f7a4_11 : decode cJ6_bitCount_0f7a4 11 = .ok (.ldc_w 266, 3) := by decide +kernel
theorem dJ6_bitCount_0f7a4_14 : decode cJ6_bitCount_0f7a4 14 = .ok (.iand, 1) := by decide +kernel
theorem dJ6_bitCount_0f7a4_15 : decode cJ6_bitCount_0f7a4 15 = .ok (.iload_n 0, 1) := by decide +kernel
theorem dJ6_bitCount_0f7a4_16 : decode cJ6_bitCount_0f7a4 16 = .ok (.iconst 2, 1) := by decide +kernel
theorem dJ6_bitCount_0f7a4_17 : decode cJ6_bitCount_0f7a4 17 = .ok (.iushr, 1) := by decide +kernel
theorem dJ6_bitCount_0f7a4_18 : decode cJ6_bitCount_0f7a4 18 = .ok (.ldc_w 266, 3) := by decide +kernel
theorem dJ6_bitCount_0f7a4_21 : decode cJ6_bitCount_0f7a4 21 = .ok (.iand, 1) := by decide +kernel
theorem dJ6_bitCount_0f7a4_22 : decode cJ6_bitCount_0f7a4 22 = .ok (.iadd, 1) := by decide +kernel
theorem dJ6_bitCount_0f7a4_23 : decode cJ6_bitCount_0f7a4 23 = .ok (.istore_n 0, 1) := by decide +kernel
theorem dJ6_bitCount_0f7a4_24 : decode cJ6_bitCount_0f7a4 24 = .ok (.iload_n 0, 1) := by decide +kernel
theorem dJ6_bitCount_0f7a4_25 : decode cJ6_bitCount_0f7a4 25 = .ok (.iload_n 0, 1) := by decide +kernel
theorem dJ6_bitCount_0f7a4_26 : decode cJ6_bitCount_0f7a4 26 = .ok (.iconst 4, 1) := by decide +kernel
theorem dJ6_bitCount_0f7a4_27 : decode cJ6_bitCount_0f7a4 27 = .ok (.iushr, 1) := by decide +kernel
theorem dJ6_bitCount_0f7a4_28 : decode cJ6_bitCount_0f7a4 28 = .ok (.iadd, 1) := by decide +kernel
theorem dJ6_bitCount_0f7a4_29 : decode cJ6_bitCount_0f7a4 29 = .ok (.ldc_w 267, 3) := by decide +kernel
theorem dJ6_bitCount_0f7a4_32 : decode cJ6_bitCount_0f7a4 32 = .ok (.iand, 1) := by decide +kernel
theorem dJ6_bitCount_0f7a4_33 : decode cJ6_bitCount_0f7a4 33 = .ok (.istore_n 0, 1) := by decide +kernel
theorem dJ6_bitCount_0f7a4_34 : decode cJ6_bitCount_0f7a4 34 = .ok (.iload_n 0, 1) := by decide +kernel
theorem dJ6_bitCount_0f7a4_35 : decode cJ6_bitCount_0f7a4 35 = .ok (.iload_n 0, 1) := by decide +kernel
theorem dJ6_bitCount_0f7a4_36 : decode cJ6_bitCount_0f7a4 36 = .ok (.bipush 8, 2) := by decide +kernel
theorem dJ6_bitCount_0f7a4_38 : decode cJ6_bitCount_0f7a4 38 = .ok (.iushr, 1) := by decide +kernel
theorem dJ6_bitCount_0f7a4_39 : decode cJ6_bitCount_0f7a4 39 = .ok (.iadd, 1) := by decide +kernel
theorem dJ6_bitCount_0f7a4_40 : decode cJ6_bitCount_0f7a4 40 = .ok (.istore_n 0, 1) := by decide +kernel
theorem dJ6_bitCount_0f7a4_41 : decode cJ6_bitCount_0f7a4 41 = .ok (.iload_n 0, 1) := by decide +kernel
theorem dJ6_bitCount_0f7a4_42 : decode cJ6_bitCount_0f7a4 42 = .ok (.iload_n 0, 1) := by decide +kernel
theorem dJ6_bitCount_0f7a4_43 : decode cJ6_bitCount_0f7a4 43 = .ok (.bipush 16, 2) := by decide +kernel
theorem dJ6_bitCount_0f7a4_45 : decode cJ6_bitCount_0f7a4 45 = .ok (.iushr, 1) := by decide +kernel
theorem dJ6_bitCount_0f7a4_46 : decode cJ6_bitCount_0f7a4 46 = .ok (.iadd, 1) := by decide +kernel
theorem dJ6_bitCount_0f7a4_47 : decode cJ6_bitCount_0f7a4 47 = .ok (.istore_n 0, 1) := by decide +kernel
theorem dJ6_bitCount_0f7a4_48 : decode cJ6_bitCount_0f7a4 48 = .ok (.iload_n 0, 1) := by decide +kernel
theorem dJ6_bitCount_0f7a4_49 : decode cJ6_bitCount_0f7a4 49 = .ok (.bipush 63, 2) := by decide +kernel
theorem dJ6_bitCount_0f7a4_51 : decode cJ6_bitCount_0f7a4 51 = .ok (.iand, 1) := by decide +kernel
theorem dJ6_bitCount_0f7a4_52 : decode cJ6_bitCount_0f7a4 52 = .ok (.ireturn, 1) := by decide +kernel
theorem dJ9_floorMod_7cf53_0 : decode cJ9_floorMod_7cf53 0 = .ok (.iload_n 0, 1) := by decide +kernel
theorem dJ9_floorMod_7cf53_1 : decode cJ9_floorMod_7cf53 1 = .ok (.iload_n 1, 1) := by decide +kernel
theorem dJ9_floorMod_7cf53_2 : decode cJ9_floorMod_7cf53 2 = .ok (.irem, 1) := by decide +kernel
theorem dJ9_floorMod_7cf53_3 : decode cJ9_floorMod_7cf53 3 = .ok (.istore_n 2, 1) := by decide +kernel
theorem dJ9_floorMod_7cf53_4 : decode cJ9_floorMod_7cf53 4 = .ok (.iload_n 0, 1) := by decide +kernel
theorem dJ9_floorMod_7cf53_5 : decode cJ9_floorMod_7cf53 5 = .ok (.iload_n 1, 1) := by decide +kernel
theorem dJ9_floorMod_7cf53_6 : decode cJ9_floorMod_7cf53 6 = .ok (.ixor, 1) := by decide +kernel
theorem dJ9_floorMod_7cf53_7 : decode cJ9_floorMod_7cf53 7 = .ok (.ifCond .ge 11, 3) := by decide +kernel
theorem dJ9_floorMod_7cf53_10 : decode cJ9_floorMod_7cf53 10 = .ok (.iload_n 2, 1) := by decide +kernel
theorem dJ9_floorMod_7cf53_11 : decode cJ9_floorMod_7cf53 11 = .ok (.ifCond .eq 7, 3) := by decide +kernel
theorem dJ9_floorMod_7cf53_14 : decode cJ9_floorMod_7cf53 14 = .ok (.iload_n 2, 1) := by decide +kernel
theorem dJ9_floorMod_7cf53_15 : decode cJ9_floorMod_7cf53 15 = .ok (.iload_n 1, 1) := by decide +kernel
theorem dJ9_floorMod_7cf53_16 : decode cJ9_floorMod_7cf53 16 = .ok (.iadd, 1) := by decide +kernel
theorem dJ9_floorMod_7cf53_17 : decode cJ9_floorMod_7cf53 17 = .ok (.ireturn, 1) := by decide +kernel
theorem dJ9_floorMod_7cf53_18 : decode cJ9_floorMod_7cf53 18 = .ok (.iload_n 2, 1) := by decide +kernel
theorem dJ9_floorMod_7cf53_19 : decode cJ9_floorMod_7cf53 19 = .ok (.ireturn, 1) := by decide +kernel
theorem dJ9_abs_0f7a4_0 : decode cJ9_abs_0f7a4 0 = .ok (.iload_n 0, 1) := by decide +kernel
theorem dJ9_abs_0f7a4_1 : decode cJ9_abs_0f7a4 1 = .ok (.ifCond .ge 8, 3) := by decide +kernel
theorem dJ9_abs_0f7a4_4 : decode cJ9_abs_0f7a4 4 = .ok (.iload_n 0, 1) := by decide +kernel
theorem dJ9_abs_0f7a4_5 : decode cJ9_abs_0f7a4 5 = .ok (.ineg, 1) := by decide +kernel
theorem dJ9_abs_0f7a4_6 : decode cJ9_abs_0f7a4 6 = .ok (.goto 4, 3) := by decide +kernel
theorem dJ9_abs_0f7a4_9 : decode cJ9_abs_0f7a4 9 = .ok (.iload_n 0, 1) := by decide +kernel
theorem dJ9_abs_0f7a4_10 : decode cJ9_abs_0f7a4 10 = .ok (.ireturn, 1) := by decide +kernel
theorem dJ9_max_7cf53_0 : decode cJ9_max_7cf53 0 = .ok (.iload_n 0, 1) := by decide +kernel
theorem dJ9_max_7cf53_1 : decode cJ9_max_7cf53 1 = .ok (.iload_n 1, 1) := by decide +kernel
theorem dJ9_max_7cf53_2 : decode cJ9_max_7cf53 2 = .ok (.if_icmp .lt 7, 3) := by decide +kernel
theorem dJ9_max_7cf53_5 : decode cJ9_max_7cf53 5 = .ok (.iload_n 0, 1) := by decide +kernel
theorem dJ9_max_7cf53_6 : decode cJ9_max_7cf53 6 = .ok (.goto 4, 3) := by decide +kernel
theorem dJ9_max_7cf53_9 : decode cJ9_max_7cf53 9 = .ok (.iload_n 1, 1) := by decide +kernel
theorem dJ9_max_7cf53_10 : decode cJ9_max_7cf53 10 = .ok (.ireturn, 1) := by decide +kernel
theorem dJ9_min_7cf53_0 : decode cJ9_min_7cf53 0 = .ok (.iload_n 0, 1) := by decide +kernel
theorem dJ9_min_7cf53_1 : decode cJ9_min_7cf53 1 = .ok (.iload_n 1, 1) := by decide +kernel
theorem dJ9_min_7cf53_2 : decode cJ9_min_7cf53 2 = .ok (.if_icmp .gt 7, 3) := by decide +kernel
theorem dJ9_min_7cf53_5 : decode cJ9_min_7cf53 5 = .ok (.iload_n 0, 1) := by decide +kernel
theorem dJ9_min_7cf53_6 : decode cJ9_min_7cf53 6 = .ok (.goto 4, 3) := by decide +kernel
theorem dJ9_min_7cf53_9 : decode cJ9_min_7cf53 9 = .ok (.iload_n 1, 1) := by decide +kernel
theorem dJ9_min_7cf53_10 : decode cJ9_min_7cf53 10 = .ok (.ireturn, 1) := by decide +kernel
abbrev vwCl : List vw_C := [(RX0, TX0, 3), (RX1, TX1, 7), (RX2, TX2, 2), (RX3, TX3, 8), (RX4, TX4, 10), (RX5, TX5, 5), (RX6, TX6, 12)]
