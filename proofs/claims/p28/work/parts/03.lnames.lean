def wsL_cell : List Cond := .code yL_cell cL_cell 2 (some .int) :: ([.constant RL 7 (15485959), .constant RL 8 (2147483647)])
def wsL_together : List Cond := .code yL_together cL_together 5 (some .int) :: ([])
def wsL_areWheels_r1 : List Cond := [Cond.constant RL 18 (65536), Cond.constant RL 24 (32768), Cond.methodLink RL 9 yX5_wheel, Cond.instanceMethod yX5_wheel, Cond.selects RX5 yX5_wheel yX5_wheel, Cond.initialized RX5, Cond.code yX5_wheel cX5_wheel 4 (some .int), Cond.fieldLink RX5 10 "PhaseTones" "now" "LPhaseTones$Sound;", Cond.fieldLink RX5 67 "PhaseTones$Sound" "wheels" "[LPhaseTones$Wheel;", Cond.fieldLink RX5 100 "PhaseTones$Wheel" "phase" "I", Cond.fieldLink RX5 71 "PhaseTones$Wheel" "step" "I", Cond.fieldLink RX5 80 "PhaseTones$Wheel" "table" "I", Cond.fieldLink RX5 83 "PhaseTones$Wheel" "volume" "I", Cond.fieldLink RX5 86 "PhaseTones$Wheel" "isOn" "Z", Cond.fieldLink RX5 103 "PhaseTones$Wheel" "sweeps" "I", Cond.methodLink RX5 63 yX5_isNoWheel, Cond.static yX5_isNoWheel, Cond.code yX5_isNoWheel cX5_isNoWheel 1 (some .boolean), Cond.methodLink RX5 40 yX5_isOutside, Cond.static yX5_isOutside, Cond.code yX5_isOutside cX5_isOutside 3 (some .boolean), Cond.methodLink RX5 138 yX3_valueGivenBy, Cond.instanceMethod yX3_valueGivenBy, Cond.selects RX3 yX3_valueGivenBy yX3_valueGivenBy]
def wsL_areWheels_r2 : List Cond := [Cond.initialized RX3, Cond.code yX3_valueGivenBy cX3_valueGivenBy 3 (some .int), Cond.fieldLink RX3 55 "PhaseTones$Wheel" "table" "I", Cond.fieldLink RX3 58 "PhaseTones$Wheel" "phase" "I", Cond.fieldLink RX3 15 "PhaseTones$Sound" "values" "[I", Cond.fieldLink RX3 61 "PhaseTones$Wheel" "volume" "I", Cond.methodLink RX5 142 yX4_image, Cond.instanceMethod yX4_image, Cond.selects RX4 yX4_image yX4_image, Cond.initialized RX4, Cond.code yX4_image cX4_image 1 (some .int), Cond.fieldLink RX4 9 "PhaseTones$Wheel" "step" "I", Cond.constant RX4 60 (32768), Cond.constant RX4 53 (65536), Cond.methodLink RX5 145 yX4_samplesOfARound, Cond.instanceMethod yX4_samplesOfARound, Cond.selects RX4 yX4_samplesOfARound yX4_samplesOfARound, Cond.code yX4_samplesOfARound cX4_samplesOfARound 2 (some .int), Cond.methodLink RX5 148 yX4_samplesOfSweeps, Cond.instanceMethod yX4_samplesOfSweeps, Cond.selects RX4 yX4_samplesOfSweeps yX4_samplesOfSweeps, Cond.code yX4_samplesOfSweeps cX4_samplesOfSweeps 3 (some .int), Cond.fieldLink RX4 35 "PhaseTones$Wheel" "sweeps" "I", Cond.fieldLink RX4 22 "PhaseTones$Wheel" "lengths" "[I"]
def wsL_areWheels_r3 : List Cond := [Cond.fieldLink RX4 47 "PhaseTones$Wheel" "gone" "I", Cond.methodLink RX5 151 yX4_lastStep, Cond.instanceMethod yX4_lastStep, Cond.selects RX4 yX4_lastStep yX4_lastStep, Cond.code yX4_lastStep cX4_lastStep 1 (some .int), Cond.fieldLink RX4 18 "PhaseTones$Wheel" "ends" "[I", Cond.methodLink RL 15 yX5_valueOf, Cond.instanceMethod yX5_valueOf, Cond.selects RX5 yX5_valueOf yX5_valueOf, Cond.code yX5_valueOf cX5_valueOf 3 (some .int), Cond.fieldLink RX5 59 "PhaseTones$Sound" "values" "[I", Cond.methodLink RX5 52 yX5_isNoTable, Cond.static yX5_isNoTable, Cond.code yX5_isNoTable cX5_isNoTable 1 (some .boolean), Cond.methodLink RX5 56 yX5_isNoPlace, Cond.static yX5_isNoPlace, Cond.code yX5_isNoPlace cX5_isNoPlace 1 (some .boolean), Cond.methodLink RL 19 yL_together, Cond.static yL_together, Cond.initialized RL, Cond.code yL_together cL_together 5 (some .int), Cond.methodLink RL 25 yX5_beat, Cond.instanceMethod yX5_beat, Cond.selects RX5 yX5_beat yX5_beat]
def wsL_areWheels_r4 : List Cond := [Cond.code yX5_beat cX5_beat 3 (some .int), Cond.methodLink RX5 157 Lib.Math.abs.name, Cond.static Lib.Math.abs.name, Cond.initialized "java/lang/Math", Cond.code Lib.Math.abs.name Lib.Math.abs.code 1 (some .int), Cond.methodLink RL 28 yX5_count, Cond.instanceMethod yX5_count, Cond.selects RX5 yX5_count yX5_count, Cond.code yX5_count cX5_count 2 (some .int), Cond.fieldLink RX5 48 "PhaseTones$Sound" "limit" "I", Cond.fieldLink RX5 154 "PhaseTones$Sound" "made" "I", Cond.fieldLink RX5 162 "PhaseTones$Sound" "clipped" "I", Cond.methodLink RX5 168 Lib.Math.min.name, Cond.static Lib.Math.min.name, Cond.code Lib.Math.min.name Lib.Math.min.code 2 (some .int), Cond.fieldLink RX5 172 "PhaseTones$Sound" "sum" "I", Cond.fieldLink RX5 175 "PhaseTones$Sound" "rises" "I", Cond.fieldLink RX5 36 "PhaseTones" "pad" "LPhaseTones$Pad;", Cond.fieldLink RX5 135 "PhaseTones$Pad" "length" "I", Cond.fieldLink RX5 22 "PhaseTones" "history" "LPhaseTones$History;", Cond.fieldLink RX5 181 "PhaseTones$History" "kept" "I", Cond.methodLink RX5 90 yX3_maskOfOn, Cond.instanceMethod yX3_maskOfOn, Cond.selects RX3 yX3_maskOfOn yX3_maskOfOn]
def wsL_areWheels_r5 : List Cond := [Cond.code yX3_maskOfOn cX3_maskOfOn 3 (some .int), Cond.fieldLink RX3 21 "PhaseTones$Sound" "wheels" "[LPhaseTones$Wheel;", Cond.fieldLink RX3 29 "PhaseTones$Wheel" "isOn" "Z", Cond.methodLink RX5 165 yX3_sumOfOn, Cond.instanceMethod yX3_sumOfOn, Cond.selects RX3 yX3_sumOfOn yX3_sumOfOn, Cond.code yX3_sumOfOn cX3_sumOfOn 3 (some .int), Cond.methodLink RX3 64 yX3_valueGivenBy, Cond.methodLink RX5 178 yX3_samplesOfARoundOfAll, Cond.instanceMethod yX3_samplesOfARoundOfAll, Cond.selects RX3 yX3_samplesOfARoundOfAll yX3_samplesOfARoundOfAll, Cond.code yX3_samplesOfARoundOfAll cX3_samplesOfARoundOfAll 3 (some .int), Cond.methodLink RX3 72 Lib.Math.max.name, Cond.static Lib.Math.max.name, Cond.code Lib.Math.max.name Lib.Math.max.code 2 (some .int), Cond.methodLink RX3 68 yX4_samplesOfARound]
def wsL_areWheels : List Cond := .code yL_areWheels cL_areWheels 14 (some .boolean) :: ((wsL_areWheels_r1 ++ (wsL_areWheels_r2 ++ (wsL_areWheels_r3 ++ (wsL_areWheels_r4 ++ wsL_areWheels_r5)))) ++ wsX50 ++ wsX30 ++ wsX40 ++ wsX10 ++ wsX00)
def wsL_areSamples_r1 : List Cond := [Cond.constant RL 48 (1000003), Cond.methodLink RL 32 yX5_ifMade, Cond.instanceMethod yX5_ifMade, Cond.selects RX5 yX5_ifMade yX5_ifMade, Cond.initialized RX5, Cond.code yX5_ifMade cX5_ifMade 6 (some .int), Cond.fieldLink RX5 16 "PhaseTones" "trial" "LPhaseTones$Sound;", Cond.fieldLink RX5 10 "PhaseTones" "now" "LPhaseTones$Sound;", Cond.methodLink RX5 190 Lib.Math.max.name, Cond.static Lib.Math.max.name, Cond.initialized "java/lang/Math", Cond.code Lib.Math.max.name Lib.Math.max.code 2 (some .int), Cond.methodLink RX5 168 Lib.Math.min.name, Cond.static Lib.Math.min.name, Cond.code Lib.Math.min.name Lib.Math.min.code 2 (some .int), Cond.fieldLink RX5 162 "PhaseTones$Sound" "clipped" "I", Cond.methodLink RX5 40 yX5_isOutside, Cond.static yX5_isOutside, Cond.code yX5_isOutside cX5_isOutside 3 (some .boolean), Cond.methodLink RX5 184 yX3_takeOver, Cond.instanceMethod yX3_takeOver, Cond.selects RX3 yX3_takeOver yX3_takeOver, Cond.initialized RX3, Cond.code yX3_takeOver cX3_takeOver 3 none]
def wsL_areSamples_r2 : List Cond := [Cond.fieldLink RX3 9 "PhaseTones$Sound" "limit" "I", Cond.fieldLink RX3 15 "PhaseTones$Sound" "values" "[I", Cond.methodLink RX3 33 arraycopyName, Cond.native arraycopyName, Cond.static arraycopyName, Cond.initialized "java/lang/System", Cond.fieldLink RX3 21 "PhaseTones$Sound" "wheels" "[LPhaseTones$Wheel;", Cond.fieldLink RX3 43 "PhaseTones$Sound" "made" "I", Cond.fieldLink RX3 46 "PhaseTones$Sound" "clipped" "I", Cond.fieldLink RX3 49 "PhaseTones$Sound" "sum" "I", Cond.fieldLink RX3 52 "PhaseTones$Sound" "rises" "I", Cond.fieldLink RX3 25 "PhaseTones$Sound" "latest" "[I", Cond.methodLink RX3 39 yX4_takeOver, Cond.instanceMethod yX4_takeOver, Cond.selects RX4 yX4_takeOver yX4_takeOver, Cond.initialized RX4, Cond.code yX4_takeOver cX4_takeOver 2 none, Cond.fieldLink RX4 25 "PhaseTones$Wheel" "phase" "I", Cond.fieldLink RX4 9 "PhaseTones$Wheel" "step" "I", Cond.fieldLink RX4 28 "PhaseTones$Wheel" "table" "I", Cond.fieldLink RX4 15 "PhaseTones$Wheel" "volume" "I", Cond.fieldLink RX4 31 "PhaseTones$Wheel" "isOn" "Z", Cond.fieldLink RX4 35 "PhaseTones$Wheel" "sweeps" "I", Cond.fieldLink RX4 18 "PhaseTones$Wheel" "ends" "[I"]
def wsL_areSamples_r3 : List Cond := [Cond.methodLink RX4 38 arraycopyName, Cond.fieldLink RX4 22 "PhaseTones$Wheel" "lengths" "[I", Cond.fieldLink RX4 44 "PhaseTones$Wheel" "begin" "I", Cond.fieldLink RX4 47 "PhaseTones$Wheel" "gone" "I", Cond.methodLink RX5 187 yX3_makeOne, Cond.instanceMethod yX3_makeOne, Cond.selects RX3 yX3_makeOne yX3_makeOne, Cond.code yX3_makeOne cX3_makeOne 3 none, Cond.methodLink RX3 89 Lib.Math.min.name, Cond.fieldLink RX3 29 "PhaseTones$Wheel" "isOn" "Z", Cond.methodLink RX3 86 yX3_sumOfOn, Cond.instanceMethod yX3_sumOfOn, Cond.selects RX3 yX3_sumOfOn yX3_sumOfOn, Cond.code yX3_sumOfOn cX3_sumOfOn 3 (some .int), Cond.methodLink RX3 64 yX3_valueGivenBy, Cond.instanceMethod yX3_valueGivenBy, Cond.selects RX3 yX3_valueGivenBy yX3_valueGivenBy, Cond.code yX3_valueGivenBy cX3_valueGivenBy 3 (some .int), Cond.fieldLink RX3 55 "PhaseTones$Wheel" "table" "I", Cond.fieldLink RX3 58 "PhaseTones$Wheel" "phase" "I", Cond.fieldLink RX3 61 "PhaseTones$Wheel" "volume" "I", Cond.methodLink RX3 92 yX3_keepMixture, Cond.instanceMethod yX3_keepMixture, Cond.selects RX3 yX3_keepMixture yX3_keepMixture]
def wsL_areSamples_r4 : List Cond := [Cond.code yX3_keepMixture cX3_keepMixture 2 none, Cond.constant RX3 103 (1000003), Cond.methodLink RX3 99 yX3_mixtureAgo, Cond.instanceMethod yX3_mixtureAgo, Cond.selects RX3 yX3_mixtureAgo yX3_mixtureAgo, Cond.code yX3_mixtureAgo cX3_mixtureAgo 2 (some .int), Cond.methodLink RX3 104 yJ9_floorMod_7cf53, Cond.static yJ9_floorMod_7cf53, Cond.initialized RJ9, Cond.code yJ9_floorMod_7cf53 cJ9_floorMod_7cf53 3 (some .int), Cond.methodLink RX3 96 yX4_goOn, Cond.instanceMethod yX4_goOn, Cond.selects RX4 yX4_goOn yX4_goOn, Cond.code yX4_goOn cX4_goOn 1 none, Cond.constant RX4 53 (65536), Cond.methodLink RX4 54 yX4_goOnSweeping, Cond.instanceMethod yX4_goOnSweeping, Cond.selects RX4 yX4_goOnSweeping yX4_goOnSweeping, Cond.code yX4_goOnSweeping cX4_goOnSweeping 2 none, Cond.methodLink RX4 57 yX4_dropFirstSweep, Cond.instanceMethod yX4_dropFirstSweep, Cond.selects RX4 yX4_dropFirstSweep yX4_dropFirstSweep, Cond.code yX4_dropFirstSweep cX4_dropFirstSweep 2 none, Cond.methodLink RX4 50 yX4_beginSweep]
def wsL_areSamples_r5 : List Cond := [Cond.instanceMethod yX4_beginSweep, Cond.selects RX4 yX4_beginSweep yX4_beginSweep, Cond.code yX4_beginSweep cX4_beginSweep 1 none, Cond.methodLink RX5 116 yX3_mixtureAgo, Cond.methodLink RL 35 yX5_untilClip, Cond.instanceMethod yX5_untilClip, Cond.selects RX5 yX5_untilClip yX5_untilClip, Cond.code yX5_untilClip cX5_untilClip 2 (some .int), Cond.methodLink RL 28 yX5_count, Cond.instanceMethod yX5_count, Cond.selects RX5 yX5_count yX5_count, Cond.code yX5_count cX5_count 2 (some .int), Cond.fieldLink RX5 48 "PhaseTones$Sound" "limit" "I", Cond.fieldLink RX5 154 "PhaseTones$Sound" "made" "I", Cond.fieldLink RX5 172 "PhaseTones$Sound" "sum" "I", Cond.fieldLink RX5 175 "PhaseTones$Sound" "rises" "I", Cond.fieldLink RX5 36 "PhaseTones" "pad" "LPhaseTones$Pad;", Cond.fieldLink RX5 135 "PhaseTones$Pad" "length" "I", Cond.fieldLink RX5 22 "PhaseTones" "history" "LPhaseTones$History;", Cond.fieldLink RX5 181 "PhaseTones$History" "kept" "I", Cond.methodLink RX5 90 yX3_maskOfOn, Cond.instanceMethod yX3_maskOfOn, Cond.selects RX3 yX3_maskOfOn yX3_maskOfOn, Cond.code yX3_maskOfOn cX3_maskOfOn 3 (some .int)]
def wsL_areSamples_r6 : List Cond := [Cond.methodLink RX5 165 yX3_sumOfOn, Cond.methodLink RX5 178 yX3_samplesOfARoundOfAll, Cond.instanceMethod yX3_samplesOfARoundOfAll, Cond.selects RX3 yX3_samplesOfARoundOfAll yX3_samplesOfARoundOfAll, Cond.code yX3_samplesOfARoundOfAll cX3_samplesOfARoundOfAll 3 (some .int), Cond.methodLink RX3 72 Lib.Math.max.name, Cond.methodLink RX3 68 yX4_samplesOfARound, Cond.instanceMethod yX4_samplesOfARound, Cond.selects RX4 yX4_samplesOfARound yX4_samplesOfARound, Cond.code yX4_samplesOfARound cX4_samplesOfARound 2 (some .int), Cond.methodLink RL 39 yX5_sample, Cond.instanceMethod yX5_sample, Cond.selects RX5 yX5_sample yX5_sample, Cond.code yX5_sample cX5_sample 2 (some .int), Cond.methodLink RL 42 yX5_save, Cond.instanceMethod yX5_save, Cond.selects RX5 yX5_save yX5_save, Cond.code yX5_save cX5_save 2 (some .int), Cond.fieldLink RX5 29 "PhaseTones" "slots" "LPhaseTones$Slots;", Cond.fieldLink RX5 211 "PhaseTones$Slots" "sounds" "[LPhaseTones$Sound;", Cond.fieldLink RX5 215 "PhaseTones$Slots" "isSaved" "[Z", Cond.methodLink RL 45 yX5_make, Cond.instanceMethod yX5_make, Cond.selects RX5 yX5_make yX5_make]
def wsL_areSamples_r7 : List Cond := [Cond.code yX5_make cX5_make 2 (some .int), Cond.methodLink RX5 110 yX3_hasNoRoomFor, Cond.instanceMethod yX3_hasNoRoomFor, Cond.selects RX3 yX3_hasNoRoomFor yX3_hasNoRoomFor, Cond.code yX3_hasNoRoomFor cX3_hasNoRoomFor 2 (some .boolean), Cond.constant RX3 78 (999999), Cond.methodLink RX5 44 yX0_keep, Cond.instanceMethod yX0_keep, Cond.selects RX0 yX0_keep yX0_keep, Cond.initialized RX0, Cond.code yX0_keep cX0_keep 2 none, Cond.fieldLink RX0 11 "PhaseTones$History" "states" "[LPhaseTones$Sound;", Cond.fieldLink RX0 18 "PhaseTones$History" "recorded" "I", Cond.fieldLink RX0 32 "PhaseTones$History" "kept" "I", Cond.methodLink RX0 35 Lib.Math.min.name, Cond.methodLink RX0 22 yJ9_floorMod_7cf53, Cond.methodLink RX0 28 yX3_takeOver, Cond.methodLink RX5 113 yX3_makeSome, Cond.instanceMethod yX3_makeSome, Cond.selects RX3 yX3_makeSome yX3_makeSome, Cond.code yX3_makeSome cX3_makeSome 3 (some .boolean), Cond.methodLink RX3 79 yX3_hasNoRoomFor, Cond.methodLink RX3 83 yX3_makeOne, Cond.methodLink RL 49 yX5_restore]
def wsL_areSamples_r8 : List Cond := [Cond.instanceMethod yX5_restore, Cond.selects RX5 yX5_restore yX5_restore, Cond.code yX5_restore cX5_restore 2 (some .int)]
def wsL_areSamples : List Cond := .code yL_areSamples cL_areSamples 21 (some .boolean) :: ((wsL_areSamples_r1 ++ (wsL_areSamples_r2 ++ (wsL_areSamples_r3 ++ (wsL_areSamples_r4 ++ (wsL_areSamples_r5 ++ (wsL_areSamples_r6 ++ (wsL_areSamples_r7 ++ wsL_areSamples_r8))))))) ++ wsX50 ++ wsX30 ++ wsX40 ++ wsX10 ++ wsX00 ++ wsX20)
def wsL_acts_r1 : List Cond := [Cond.constant RL 18 (65536), Cond.methodLink RL 9 yX5_wheel, Cond.instanceMethod yX5_wheel, Cond.selects RX5 yX5_wheel yX5_wheel, Cond.initialized RX5, Cond.code yX5_wheel cX5_wheel 4 (some .int), Cond.fieldLink RX5 10 "PhaseTones" "now" "LPhaseTones$Sound;", Cond.fieldLink RX5 67 "PhaseTones$Sound" "wheels" "[LPhaseTones$Wheel;", Cond.fieldLink RX5 100 "PhaseTones$Wheel" "phase" "I", Cond.fieldLink RX5 71 "PhaseTones$Wheel" "step" "I", Cond.fieldLink RX5 80 "PhaseTones$Wheel" "table" "I", Cond.fieldLink RX5 83 "PhaseTones$Wheel" "volume" "I", Cond.fieldLink RX5 86 "PhaseTones$Wheel" "isOn" "Z", Cond.fieldLink RX5 103 "PhaseTones$Wheel" "sweeps" "I", Cond.methodLink RX5 63 yX5_isNoWheel, Cond.static yX5_isNoWheel, Cond.code yX5_isNoWheel cX5_isNoWheel 1 (some .boolean), Cond.methodLink RX5 40 yX5_isOutside, Cond.static yX5_isOutside, Cond.code yX5_isOutside cX5_isOutside 3 (some .boolean), Cond.methodLink RX5 138 yX3_valueGivenBy, Cond.instanceMethod yX3_valueGivenBy, Cond.selects RX3 yX3_valueGivenBy yX3_valueGivenBy, Cond.initialized RX3]
def wsL_acts_r2 : List Cond := [Cond.code yX3_valueGivenBy cX3_valueGivenBy 3 (some .int), Cond.fieldLink RX3 55 "PhaseTones$Wheel" "table" "I", Cond.fieldLink RX3 58 "PhaseTones$Wheel" "phase" "I", Cond.fieldLink RX3 15 "PhaseTones$Sound" "values" "[I", Cond.fieldLink RX3 61 "PhaseTones$Wheel" "volume" "I", Cond.methodLink RX5 142 yX4_image, Cond.instanceMethod yX4_image, Cond.selects RX4 yX4_image yX4_image, Cond.initialized RX4, Cond.code yX4_image cX4_image 1 (some .int), Cond.fieldLink RX4 9 "PhaseTones$Wheel" "step" "I", Cond.constant RX4 60 (32768), Cond.constant RX4 53 (65536), Cond.methodLink RX5 145 yX4_samplesOfARound, Cond.instanceMethod yX4_samplesOfARound, Cond.selects RX4 yX4_samplesOfARound yX4_samplesOfARound, Cond.code yX4_samplesOfARound cX4_samplesOfARound 2 (some .int), Cond.methodLink RX5 148 yX4_samplesOfSweeps, Cond.instanceMethod yX4_samplesOfSweeps, Cond.selects RX4 yX4_samplesOfSweeps yX4_samplesOfSweeps, Cond.code yX4_samplesOfSweeps cX4_samplesOfSweeps 3 (some .int), Cond.fieldLink RX4 35 "PhaseTones$Wheel" "sweeps" "I", Cond.fieldLink RX4 22 "PhaseTones$Wheel" "lengths" "[I", Cond.fieldLink RX4 47 "PhaseTones$Wheel" "gone" "I"]
def wsL_acts_r3 : List Cond := [Cond.methodLink RX5 151 yX4_lastStep, Cond.instanceMethod yX4_lastStep, Cond.selects RX4 yX4_lastStep yX4_lastStep, Cond.code yX4_lastStep cX4_lastStep 1 (some .int), Cond.fieldLink RX4 18 "PhaseTones$Wheel" "ends" "[I", Cond.methodLink RL 52 yX5_step, Cond.instanceMethod yX5_step, Cond.selects RX5 yX5_step yX5_step, Cond.code yX5_step cX5_step 4 (some .int), Cond.constant RX5 66 (65535), Cond.fieldLink RX5 22 "PhaseTones" "history" "LPhaseTones$History;", Cond.methodLink RX5 44 yX0_keep, Cond.instanceMethod yX0_keep, Cond.selects RX0 yX0_keep yX0_keep, Cond.initialized RX0, Cond.code yX0_keep cX0_keep 2 none, Cond.fieldLink RX0 11 "PhaseTones$History" "states" "[LPhaseTones$Sound;", Cond.fieldLink RX0 18 "PhaseTones$History" "recorded" "I", Cond.fieldLink RX0 32 "PhaseTones$History" "kept" "I", Cond.methodLink RX0 35 Lib.Math.min.name, Cond.static Lib.Math.min.name, Cond.initialized "java/lang/Math", Cond.code Lib.Math.min.name Lib.Math.min.code 2 (some .int), Cond.methodLink RX0 22 yJ9_floorMod_7cf53]
def wsL_acts_r4 : List Cond := [Cond.static yJ9_floorMod_7cf53, Cond.initialized RJ9, Cond.code yJ9_floorMod_7cf53 cJ9_floorMod_7cf53 3 (some .int), Cond.methodLink RX0 28 yX3_takeOver, Cond.instanceMethod yX3_takeOver, Cond.selects RX3 yX3_takeOver yX3_takeOver, Cond.code yX3_takeOver cX3_takeOver 3 none, Cond.fieldLink RX3 9 "PhaseTones$Sound" "limit" "I", Cond.methodLink RX3 33 arraycopyName, Cond.native arraycopyName, Cond.static arraycopyName, Cond.initialized "java/lang/System", Cond.fieldLink RX3 21 "PhaseTones$Sound" "wheels" "[LPhaseTones$Wheel;", Cond.fieldLink RX3 43 "PhaseTones$Sound" "made" "I", Cond.fieldLink RX3 46 "PhaseTones$Sound" "clipped" "I", Cond.fieldLink RX3 49 "PhaseTones$Sound" "sum" "I", Cond.fieldLink RX3 52 "PhaseTones$Sound" "rises" "I", Cond.fieldLink RX3 25 "PhaseTones$Sound" "latest" "[I", Cond.methodLink RX3 39 yX4_takeOver, Cond.instanceMethod yX4_takeOver, Cond.selects RX4 yX4_takeOver yX4_takeOver, Cond.code yX4_takeOver cX4_takeOver 2 none, Cond.fieldLink RX4 25 "PhaseTones$Wheel" "phase" "I", Cond.fieldLink RX4 28 "PhaseTones$Wheel" "table" "I"]
def wsL_acts_r5 : List Cond := [Cond.fieldLink RX4 15 "PhaseTones$Wheel" "volume" "I", Cond.fieldLink RX4 31 "PhaseTones$Wheel" "isOn" "Z", Cond.methodLink RX4 38 arraycopyName, Cond.fieldLink RX4 44 "PhaseTones$Wheel" "begin" "I", Cond.methodLink RX5 76 yX4_changeStep, Cond.instanceMethod yX4_changeStep, Cond.selects RX4 yX4_changeStep yX4_changeStep, Cond.code yX4_changeStep cX4_changeStep 2 none, Cond.methodLink RL 55 yX5_table, Cond.instanceMethod yX5_table, Cond.selects RX5 yX5_table yX5_table, Cond.code yX5_table cX5_table 4 (some .int), Cond.methodLink RX5 52 yX5_isNoTable, Cond.static yX5_isNoTable, Cond.code yX5_isNoTable cX5_isNoTable 1 (some .boolean), Cond.methodLink RL 58 yX5_volume, Cond.instanceMethod yX5_volume, Cond.selects RX5 yX5_volume yX5_volume, Cond.code yX5_volume cX5_volume 4 (some .int), Cond.methodLink RL 61 yX5_turn, Cond.instanceMethod yX5_turn, Cond.selects RX5 yX5_turn yX5_turn, Cond.code yX5_turn cX5_turn 3 (some .int), Cond.methodLink RX5 90 yX3_maskOfOn]
def wsL_acts_r6 : List Cond := [Cond.instanceMethod yX3_maskOfOn, Cond.selects RX3 yX3_maskOfOn yX3_maskOfOn, Cond.code yX3_maskOfOn cX3_maskOfOn 3 (some .int), Cond.fieldLink RX3 29 "PhaseTones$Wheel" "isOn" "Z", Cond.methodLink RX5 94 yJ6_bitCount_0f7a4, Cond.static yJ6_bitCount_0f7a4, Cond.initialized RJ6, Cond.code yJ6_bitCount_0f7a4 cJ6_bitCount_0f7a4 1 (some .int), Cond.constant RJ6 265 (1431655765), Cond.constant RJ6 266 (858993459), Cond.constant RJ6 267 (252645135), Cond.methodLink RL 65 yX5_phase, Cond.instanceMethod yX5_phase, Cond.selects RX5 yX5_phase yX5_phase, Cond.code yX5_phase cX5_phase 4 (some .int), Cond.methodLink RL 68 yX5_sweep, Cond.instanceMethod yX5_sweep, Cond.selects RX5 yX5_sweep yX5_sweep, Cond.code yX5_sweep cX5_sweep 4 (some .int), Cond.methodLink RX5 106 yX4_addSweep, Cond.instanceMethod yX4_addSweep, Cond.selects RX4 yX4_addSweep yX4_addSweep, Cond.code yX4_addSweep cX4_addSweep 3 (some .boolean), Cond.methodLink RX4 50 yX4_beginSweep]
def wsL_acts_r7 : List Cond := [Cond.instanceMethod yX4_beginSweep, Cond.selects RX4 yX4_beginSweep yX4_beginSweep, Cond.code yX4_beginSweep cX4_beginSweep 1 none, Cond.methodLink RL 15 yX5_valueOf, Cond.instanceMethod yX5_valueOf, Cond.selects RX5 yX5_valueOf yX5_valueOf, Cond.code yX5_valueOf cX5_valueOf 3 (some .int), Cond.fieldLink RX5 59 "PhaseTones$Sound" "values" "[I", Cond.methodLink RX5 56 yX5_isNoPlace, Cond.static yX5_isNoPlace, Cond.code yX5_isNoPlace cX5_isNoPlace 1 (some .boolean), Cond.methodLink RL 28 yX5_count, Cond.instanceMethod yX5_count, Cond.selects RX5 yX5_count yX5_count, Cond.code yX5_count cX5_count 2 (some .int), Cond.fieldLink RX5 48 "PhaseTones$Sound" "limit" "I", Cond.fieldLink RX5 154 "PhaseTones$Sound" "made" "I", Cond.fieldLink RX5 162 "PhaseTones$Sound" "clipped" "I", Cond.methodLink RX5 168 Lib.Math.min.name, Cond.fieldLink RX5 172 "PhaseTones$Sound" "sum" "I", Cond.fieldLink RX5 175 "PhaseTones$Sound" "rises" "I", Cond.fieldLink RX5 36 "PhaseTones" "pad" "LPhaseTones$Pad;", Cond.fieldLink RX5 135 "PhaseTones$Pad" "length" "I", Cond.fieldLink RX5 181 "PhaseTones$History" "kept" "I"]
def wsL_acts_r8 : List Cond := [Cond.methodLink RX5 165 yX3_sumOfOn, Cond.instanceMethod yX3_sumOfOn, Cond.selects RX3 yX3_sumOfOn yX3_sumOfOn, Cond.code yX3_sumOfOn cX3_sumOfOn 3 (some .int), Cond.methodLink RX3 64 yX3_valueGivenBy, Cond.methodLink RX5 178 yX3_samplesOfARoundOfAll, Cond.instanceMethod yX3_samplesOfARoundOfAll, Cond.selects RX3 yX3_samplesOfARoundOfAll yX3_samplesOfARoundOfAll, Cond.code yX3_samplesOfARoundOfAll cX3_samplesOfARoundOfAll 3 (some .int), Cond.methodLink RX3 72 Lib.Math.max.name, Cond.static Lib.Math.max.name, Cond.code Lib.Math.max.name Lib.Math.max.code 2 (some .int), Cond.methodLink RX3 68 yX4_samplesOfARound, Cond.methodLink RL 72 yX5_fill, Cond.instanceMethod yX5_fill, Cond.selects RX5 yX5_fill yX5_fill, Cond.code yX5_fill cX5_fill 6 (some .int), Cond.methodLink RL 75 yX5_clip, Cond.instanceMethod yX5_clip, Cond.selects RX5 yX5_clip yX5_clip, Cond.code yX5_clip cX5_clip 3 (some .int), Cond.methodLink RL 32 yX5_ifMade, Cond.instanceMethod yX5_ifMade, Cond.selects RX5 yX5_ifMade yX5_ifMade]
def wsL_acts_r9 : List Cond := [Cond.code yX5_ifMade cX5_ifMade 6 (some .int), Cond.fieldLink RX5 16 "PhaseTones" "trial" "LPhaseTones$Sound;", Cond.methodLink RX5 190 Lib.Math.max.name, Cond.methodLink RX5 184 yX3_takeOver, Cond.methodLink RX5 187 yX3_makeOne, Cond.instanceMethod yX3_makeOne, Cond.selects RX3 yX3_makeOne yX3_makeOne, Cond.code yX3_makeOne cX3_makeOne 3 none, Cond.methodLink RX3 89 Lib.Math.min.name, Cond.methodLink RX3 86 yX3_sumOfOn, Cond.methodLink RX3 92 yX3_keepMixture, Cond.instanceMethod yX3_keepMixture, Cond.selects RX3 yX3_keepMixture yX3_keepMixture, Cond.code yX3_keepMixture cX3_keepMixture 2 none, Cond.constant RX3 103 (1000003), Cond.methodLink RX3 99 yX3_mixtureAgo, Cond.instanceMethod yX3_mixtureAgo, Cond.selects RX3 yX3_mixtureAgo yX3_mixtureAgo, Cond.code yX3_mixtureAgo cX3_mixtureAgo 2 (some .int), Cond.methodLink RX3 104 yJ9_floorMod_7cf53, Cond.methodLink RX3 96 yX4_goOn, Cond.instanceMethod yX4_goOn, Cond.selects RX4 yX4_goOn yX4_goOn, Cond.code yX4_goOn cX4_goOn 1 none]
def wsL_acts_r10 : List Cond := [Cond.methodLink RX4 54 yX4_goOnSweeping, Cond.instanceMethod yX4_goOnSweeping, Cond.selects RX4 yX4_goOnSweeping yX4_goOnSweeping, Cond.code yX4_goOnSweeping cX4_goOnSweeping 2 none, Cond.methodLink RX4 57 yX4_dropFirstSweep, Cond.instanceMethod yX4_dropFirstSweep, Cond.selects RX4 yX4_dropFirstSweep yX4_dropFirstSweep, Cond.code yX4_dropFirstSweep cX4_dropFirstSweep 2 none, Cond.methodLink RX5 116 yX3_mixtureAgo, Cond.methodLink RL 45 yX5_make, Cond.instanceMethod yX5_make, Cond.selects RX5 yX5_make yX5_make, Cond.code yX5_make cX5_make 2 (some .int), Cond.methodLink RX5 110 yX3_hasNoRoomFor, Cond.instanceMethod yX3_hasNoRoomFor, Cond.selects RX3 yX3_hasNoRoomFor yX3_hasNoRoomFor, Cond.code yX3_hasNoRoomFor cX3_hasNoRoomFor 2 (some .boolean), Cond.constant RX3 78 (999999), Cond.methodLink RX5 113 yX3_makeSome, Cond.instanceMethod yX3_makeSome, Cond.selects RX3 yX3_makeSome yX3_makeSome, Cond.code yX3_makeSome cX3_makeSome 3 (some .boolean), Cond.methodLink RX3 79 yX3_hasNoRoomFor, Cond.methodLink RX3 83 yX3_makeOne]
def wsL_acts_r11 : List Cond := [Cond.methodLink RL 39 yX5_sample, Cond.instanceMethod yX5_sample, Cond.selects RX5 yX5_sample yX5_sample, Cond.code yX5_sample cX5_sample 2 (some .int)]
def wsL_acts : List Cond := .code yL_acts cL_acts 18 (some .boolean) :: ((wsL_acts_r1 ++ (wsL_acts_r2 ++ (wsL_acts_r3 ++ (wsL_acts_r4 ++ (wsL_acts_r5 ++ (wsL_acts_r6 ++ (wsL_acts_r7 ++ (wsL_acts_r8 ++ (wsL_acts_r9 ++ (wsL_acts_r10 ++ wsL_acts_r11)))))))))) ++ wsX50 ++ wsX30 ++ wsX40 ++ wsX00 ++ wsX10)
def wsL_isRound_r1 : List Cond := [Cond.constant RL 81 (70000), Cond.methodLink RL 78 yX5_untilRound, Cond.instanceMethod yX5_untilRound, Cond.selects RX5 yX5_untilRound yX5_untilRound, Cond.initialized RX5, Cond.code yX5_untilRound cX5_untilRound 2 (some .int), Cond.fieldLink RX5 16 "PhaseTones" "trial" "LPhaseTones$Sound;", Cond.fieldLink RX5 10 "PhaseTones" "now" "LPhaseTones$Sound;", Cond.fieldLink RX5 67 "PhaseTones$Sound" "wheels" "[LPhaseTones$Wheel;", Cond.methodLink RX5 63 yX5_isNoWheel, Cond.static yX5_isNoWheel, Cond.code yX5_isNoWheel cX5_isNoWheel 1 (some .boolean), Cond.methodLink RX5 40 yX5_isOutside, Cond.static yX5_isOutside, Cond.code yX5_isOutside cX5_isOutside 3 (some .boolean), Cond.methodLink RX5 184 yX3_takeOver, Cond.instanceMethod yX3_takeOver, Cond.selects RX3 yX3_takeOver yX3_takeOver, Cond.initialized RX3, Cond.code yX3_takeOver cX3_takeOver 3 none, Cond.fieldLink RX3 9 "PhaseTones$Sound" "limit" "I", Cond.fieldLink RX3 15 "PhaseTones$Sound" "values" "[I", Cond.methodLink RX3 33 arraycopyName, Cond.native arraycopyName]
def wsL_isRound_r2 : List Cond := [Cond.static arraycopyName, Cond.initialized "java/lang/System", Cond.fieldLink RX3 21 "PhaseTones$Sound" "wheels" "[LPhaseTones$Wheel;", Cond.fieldLink RX3 43 "PhaseTones$Sound" "made" "I", Cond.fieldLink RX3 46 "PhaseTones$Sound" "clipped" "I", Cond.fieldLink RX3 49 "PhaseTones$Sound" "sum" "I", Cond.fieldLink RX3 52 "PhaseTones$Sound" "rises" "I", Cond.fieldLink RX3 25 "PhaseTones$Sound" "latest" "[I", Cond.methodLink RX3 39 yX4_takeOver, Cond.instanceMethod yX4_takeOver, Cond.selects RX4 yX4_takeOver yX4_takeOver, Cond.initialized RX4, Cond.code yX4_takeOver cX4_takeOver 2 none, Cond.fieldLink RX4 25 "PhaseTones$Wheel" "phase" "I", Cond.fieldLink RX4 9 "PhaseTones$Wheel" "step" "I", Cond.fieldLink RX4 28 "PhaseTones$Wheel" "table" "I", Cond.fieldLink RX4 15 "PhaseTones$Wheel" "volume" "I", Cond.fieldLink RX4 31 "PhaseTones$Wheel" "isOn" "Z", Cond.fieldLink RX4 35 "PhaseTones$Wheel" "sweeps" "I", Cond.fieldLink RX4 18 "PhaseTones$Wheel" "ends" "[I", Cond.methodLink RX4 38 arraycopyName, Cond.fieldLink RX4 22 "PhaseTones$Wheel" "lengths" "[I", Cond.fieldLink RX4 44 "PhaseTones$Wheel" "begin" "I", Cond.fieldLink RX4 47 "PhaseTones$Wheel" "gone" "I"]
def wsL_isRound_r3 : List Cond := [Cond.methodLink RX5 195 yX4_goRound, Cond.instanceMethod yX4_goRound, Cond.selects RX4 yX4_goRound yX4_goRound, Cond.code yX4_goRound cX4_goRound 3 (some .int), Cond.constant RX4 61 (70000), Cond.constant RX4 65 (65535), Cond.methodLink RX4 62 yX4_goOn, Cond.instanceMethod yX4_goOn, Cond.selects RX4 yX4_goOn yX4_goOn, Cond.code yX4_goOn cX4_goOn 1 none, Cond.constant RX4 53 (65536), Cond.methodLink RX4 54 yX4_goOnSweeping, Cond.instanceMethod yX4_goOnSweeping, Cond.selects RX4 yX4_goOnSweeping yX4_goOnSweeping, Cond.code yX4_goOnSweeping cX4_goOnSweeping 2 none, Cond.methodLink RX4 57 yX4_dropFirstSweep, Cond.instanceMethod yX4_dropFirstSweep, Cond.selects RX4 yX4_dropFirstSweep yX4_dropFirstSweep, Cond.code yX4_dropFirstSweep cX4_dropFirstSweep 2 none, Cond.methodLink RX4 50 yX4_beginSweep, Cond.instanceMethod yX4_beginSweep, Cond.selects RX4 yX4_beginSweep yX4_beginSweep, Cond.code yX4_beginSweep cX4_beginSweep 1 none, Cond.methodLink RL 9 yX5_wheel]
def wsL_isRound_r4 : List Cond := [Cond.instanceMethod yX5_wheel, Cond.selects RX5 yX5_wheel yX5_wheel, Cond.code yX5_wheel cX5_wheel 4 (some .int), Cond.fieldLink RX5 100 "PhaseTones$Wheel" "phase" "I", Cond.fieldLink RX5 71 "PhaseTones$Wheel" "step" "I", Cond.fieldLink RX5 80 "PhaseTones$Wheel" "table" "I", Cond.fieldLink RX5 83 "PhaseTones$Wheel" "volume" "I", Cond.fieldLink RX5 86 "PhaseTones$Wheel" "isOn" "Z", Cond.fieldLink RX5 103 "PhaseTones$Wheel" "sweeps" "I", Cond.methodLink RX5 138 yX3_valueGivenBy, Cond.instanceMethod yX3_valueGivenBy, Cond.selects RX3 yX3_valueGivenBy yX3_valueGivenBy, Cond.code yX3_valueGivenBy cX3_valueGivenBy 3 (some .int), Cond.fieldLink RX3 55 "PhaseTones$Wheel" "table" "I", Cond.fieldLink RX3 58 "PhaseTones$Wheel" "phase" "I", Cond.fieldLink RX3 61 "PhaseTones$Wheel" "volume" "I", Cond.methodLink RX5 142 yX4_image, Cond.instanceMethod yX4_image, Cond.selects RX4 yX4_image yX4_image, Cond.code yX4_image cX4_image 1 (some .int), Cond.constant RX4 60 (32768), Cond.methodLink RX5 145 yX4_samplesOfARound, Cond.instanceMethod yX4_samplesOfARound, Cond.selects RX4 yX4_samplesOfARound yX4_samplesOfARound]
def wsL_isRound_r5 : List Cond := [Cond.code yX4_samplesOfARound cX4_samplesOfARound 2 (some .int), Cond.methodLink RX5 148 yX4_samplesOfSweeps, Cond.instanceMethod yX4_samplesOfSweeps, Cond.selects RX4 yX4_samplesOfSweeps yX4_samplesOfSweeps, Cond.code yX4_samplesOfSweeps cX4_samplesOfSweeps 3 (some .int), Cond.methodLink RX5 151 yX4_lastStep, Cond.instanceMethod yX4_lastStep, Cond.selects RX4 yX4_lastStep yX4_lastStep, Cond.code yX4_lastStep cX4_lastStep 1 (some .int), Cond.methodLink RL 61 yX5_turn, Cond.instanceMethod yX5_turn, Cond.selects RX5 yX5_turn yX5_turn, Cond.code yX5_turn cX5_turn 3 (some .int), Cond.fieldLink RX5 22 "PhaseTones" "history" "LPhaseTones$History;", Cond.methodLink RX5 44 yX0_keep, Cond.instanceMethod yX0_keep, Cond.selects RX0 yX0_keep yX0_keep, Cond.initialized RX0, Cond.code yX0_keep cX0_keep 2 none, Cond.fieldLink RX0 11 "PhaseTones$History" "states" "[LPhaseTones$Sound;", Cond.fieldLink RX0 18 "PhaseTones$History" "recorded" "I", Cond.fieldLink RX0 32 "PhaseTones$History" "kept" "I", Cond.methodLink RX0 35 Lib.Math.min.name, Cond.static Lib.Math.min.name]
def wsL_isRound_r6 : List Cond := [Cond.initialized "java/lang/Math", Cond.code Lib.Math.min.name Lib.Math.min.code 2 (some .int), Cond.methodLink RX0 22 yJ9_floorMod_7cf53, Cond.static yJ9_floorMod_7cf53, Cond.initialized RJ9, Cond.code yJ9_floorMod_7cf53 cJ9_floorMod_7cf53 3 (some .int), Cond.methodLink RX0 28 yX3_takeOver, Cond.methodLink RX5 90 yX3_maskOfOn, Cond.instanceMethod yX3_maskOfOn, Cond.selects RX3 yX3_maskOfOn yX3_maskOfOn, Cond.code yX3_maskOfOn cX3_maskOfOn 3 (some .int), Cond.fieldLink RX3 29 "PhaseTones$Wheel" "isOn" "Z", Cond.methodLink RX5 94 yJ6_bitCount_0f7a4, Cond.static yJ6_bitCount_0f7a4, Cond.initialized RJ6, Cond.code yJ6_bitCount_0f7a4 cJ6_bitCount_0f7a4 1 (some .int), Cond.constant RJ6 265 (1431655765), Cond.constant RJ6 266 (858993459), Cond.constant RJ6 267 (252645135), Cond.methodLink RL 45 yX5_make, Cond.instanceMethod yX5_make, Cond.selects RX5 yX5_make yX5_make, Cond.code yX5_make cX5_make 2 (some .int), Cond.methodLink RX5 110 yX3_hasNoRoomFor]
def wsL_isRound_r7 : List Cond := [Cond.instanceMethod yX3_hasNoRoomFor, Cond.selects RX3 yX3_hasNoRoomFor yX3_hasNoRoomFor, Cond.code yX3_hasNoRoomFor cX3_hasNoRoomFor 2 (some .boolean), Cond.constant RX3 78 (999999), Cond.methodLink RX5 113 yX3_makeSome, Cond.instanceMethod yX3_makeSome, Cond.selects RX3 yX3_makeSome yX3_makeSome, Cond.code yX3_makeSome cX3_makeSome 3 (some .boolean), Cond.methodLink RX3 79 yX3_hasNoRoomFor, Cond.methodLink RX3 83 yX3_makeOne, Cond.instanceMethod yX3_makeOne, Cond.selects RX3 yX3_makeOne yX3_makeOne, Cond.code yX3_makeOne cX3_makeOne 3 none, Cond.methodLink RX3 89 Lib.Math.min.name, Cond.methodLink RX3 86 yX3_sumOfOn, Cond.instanceMethod yX3_sumOfOn, Cond.selects RX3 yX3_sumOfOn yX3_sumOfOn, Cond.code yX3_sumOfOn cX3_sumOfOn 3 (some .int), Cond.methodLink RX3 64 yX3_valueGivenBy, Cond.methodLink RX3 92 yX3_keepMixture, Cond.instanceMethod yX3_keepMixture, Cond.selects RX3 yX3_keepMixture yX3_keepMixture, Cond.code yX3_keepMixture cX3_keepMixture 2 none, Cond.constant RX3 103 (1000003)]
def wsL_isRound_r8 : List Cond := [Cond.methodLink RX3 99 yX3_mixtureAgo, Cond.instanceMethod yX3_mixtureAgo, Cond.selects RX3 yX3_mixtureAgo yX3_mixtureAgo, Cond.code yX3_mixtureAgo cX3_mixtureAgo 2 (some .int), Cond.methodLink RX3 104 yJ9_floorMod_7cf53, Cond.methodLink RX3 96 yX4_goOn, Cond.methodLink RX5 116 yX3_mixtureAgo]
def wsL_isRound : List Cond := .code yL_isRound cL_isRound 7 (some .boolean) :: ((wsL_isRound_r1 ++ (wsL_isRound_r2 ++ (wsL_isRound_r3 ++ (wsL_isRound_r4 ++ (wsL_isRound_r5 ++ (wsL_isRound_r6 ++ (wsL_isRound_r7 ++ wsL_isRound_r8))))))) ++ wsX50 ++ wsX30 ++ wsX40 ++ wsX00)
theorem dL_cell_0 : decode cL_cell 0 = .ok (.iload_n 1, 1) := by decide +kernel
theorem dL_cell_1 : decode cL_cell 1 = .ok (.aload_n 0, 1) := by decide +kernel
theorem dL_cell_2 : decode cL_cell 2 = .ok (.arraylength, 1) := by decide +kernel
theorem dL_cell_3 : decode cL_cell 3 = .ok (.if_icmp .ge 9, 3) := by decide +kernel
theorem dL_cell_6 : decode cL_cell 6 = .ok (.aload_n 0, 1) := by decide +kernel
theorem dL_cell_7 : decode cL_cell 7 = .ok (.iload_n 1, 1) := by decide +kernel
theorem dL_cell_8 : decode cL_cell 8 = .ok (.iaload, 1) := by decide +kernel
theorem dL_cell_9 : decode cL_cell 9 = .ok (.goto 11, 3) := by decide +kernel
theorem dL_cell_12 : decode cL_cell 12 = .ok (.ldc 7, 2) := by decide +kernel
theorem dL_cell_14 : decode cL_cell 14 = .ok (.iload_n 1, 1) := by decide +kernel
theorem dL_cell_15 : decode cL_cell 15 = .ok (.imul, 1) := by decide +kernel
theorem dL_cell_16 : decode cL_cell 16 = .ok (.sipush 8307, 3) := by decide +kernel
theorem dL_cell_19 : decode cL_cell 19 = .ok (.iadd, 1) := by decide +kernel
theorem dL_cell_20 : decode cL_cell 20 = .ok (.ldc 8, 2) := by decide +kernel
theorem dL_cell_22 : decode cL_cell 22 = .ok (.iand, 1) := by decide +kernel
theorem dL_cell_23 : decode cL_cell 23 = .ok (.ireturn, 1) := by decide +kernel
theorem dL_together_0 : decode cL_together 0 = .ok (.iload_n 0, 1) := by decide +kernel
theorem dL_together_1 : decode cL_together 1 = .ok (.istore_n 2, 1) := by decide +kernel
theorem dL_together_2 : decode cL_together 2 = .ok (.iload_n 1, 1) := by decide +kernel
theorem dL_together_3 : decode cL_together 3 = .ok (.istore_n 3, 1) := by decide +kernel
theorem dL_together_4 : decode cL_together 4 = .ok (.iload_n 3, 1) := by decide +kernel
theorem dL_together_5 : decode cL_together 5 = .ok (.ifCond .le 16, 3) := by decide +kernel
theorem dL_together_8 : decode cL_together 8 = .ok (.iload_n 2, 1) := by decide +kernel
theorem dL_together_9 : decode cL_together 9 = .ok (.iload_n 3, 1) := by decide +kernel
theorem dL_together_10 : decode cL_together 10 = .ok (.irem, 1) := by decide +kernel
theorem dL_together_11 : decode cL_together 11 = .ok (.istore 4, 2) := by decide +kernel
theorem dL_together_13 : decode cL_together 13 = .ok (.iload_n 3, 1) := by decide +kernel
theorem dL_together_14 : decode cL_together 14 = .ok (.istore_n 2, 1) := by decide +kernel
theorem dL_together_15 : decode cL_together 15 = .ok (.iload 4, 2) := by decide +kernel
theorem dL_together_17 : decode cL_together 17 = .ok (.istore_n 3, 1) := by decide +kernel
theorem dL_together_18 : decode cL_together 18 = .ok (.goto (-14), 3) := by decide +kernel
theorem dL_together_21 : decode cL_together 21 = .ok (.iload_n 2, 1) := by decide +kernel
theorem dL_together_22 : decode cL_together 22 = .ok (.ireturn, 1) := by decide +kernel
set_option maxRecDepth 20000 in
theorem ggL_areWheels_X5_wheel : GoodIn wsL_areWheels wsX5_wheel := goodIn_r _ [7, 8, 9, 10, 11, 12, 13, 14, 15, 16, 17, 6, 18, 19, 20, 21, 22, 23, 24, 25, 26, 27, 28, 29, 30, 31, 32, 33, 34, 35, 36, 37, 38, 39, 40, 41, 42, 43, 44, 45, 46, 47, 48, 49, 50, 51, 52, 53, 54, 113, 114, 115, 116, 117, 118, 119, 120, 121, 122, 123, 124, 125, 126, 127, 128, 129, 130, 131, 132, 133, 134, 135] (by decide +kernel) (by decide +kernel)
set_option maxRecDepth 20000 in
theorem gL_areWheels_X5_wheel : GoodIn wsL_areWheels (wsV RL 9 RX5 yX5_wheel wsX5_wheel) := goodIn_app (goodIn_of _ (by decide +kernel)) ggL_areWheels_X5_wheel
set_option maxRecDepth 20000 in
theorem ggL_areWheels_X5_valueOf : GoodIn wsL_areWheels wsX5_valueOf := goodIn_r _ [58, 8, 59, 60, 61, 6, 62, 19, 20, 21, 63, 64, 65, 113, 114, 115, 116, 117, 118, 119, 120, 121, 122, 123, 124, 125] (by decide +kernel) (by decide +kernel)
set_option maxRecDepth 20000 in
theorem gL_areWheels_X5_valueOf : GoodIn wsL_areWheels (wsV RL 15 RX5 yX5_valueOf wsX5_valueOf) := goodIn_app (goodIn_of _ (by decide +kernel)) ggL_areWheels_X5_valueOf
set_option maxRecDepth 20000 in
theorem ggL_areWheels_L_together : GoodIn wsL_areWheels wsL_together := goodIn_r _ [69] (by decide +kernel) (by decide +kernel)
set_option maxRecDepth 20000 in
theorem gL_areWheels_L_together : GoodIn wsL_areWheels (va_wsS RL 19 yL_together wsL_together) := goodIn_app (goodIn_of _ (by decide +kernel)) ggL_areWheels_L_together
set_option maxRecDepth 20000 in
theorem ggL_areWheels_X5_beat : GoodIn wsL_areWheels wsX5_beat := goodIn_r _ [73, 8, 9, 74, 75, 76, 77, 16, 17, 6, 18, 19, 20, 21, 31, 32, 33, 34, 35, 36, 37, 38, 113, 114, 115, 116, 117, 118, 119, 120, 121, 122, 123, 124, 125, 126, 127, 128, 129, 130, 131, 132, 133, 134, 135] (by decide +kernel) (by decide +kernel)
set_option maxRecDepth 20000 in
theorem gL_areWheels_X5_beat : GoodIn wsL_areWheels (wsV RL 25 RX5 yX5_beat wsX5_beat) := goodIn_app (goodIn_of _ (by decide +kernel)) ggL_areWheels_X5_beat
set_option maxRecDepth 20000 in
theorem ggL_areWheels_X5_count : GoodIn wsL_areWheels wsX5_count := goodIn_r _ [81, 8, 82, 83, 84, 85, 86, 76, 87, 88, 89, 90, 91, 92, 93, 94, 95, 96, 25, 97, 98, 99, 100, 101, 102, 103, 104, 23, 24, 26, 27, 28, 29, 30, 105, 106, 107, 108, 109, 110, 111, 112, 40, 41, 34, 42, 36, 38, 113, 114, 115, 116, 117, 118, 119, 120, 121, 122, 123, 124, 125, 136, 137, 138, 139, 140, 141, 142, 143, 144, 145, 126, 127, 128, 129, 130, 131, 132, 133, 134, 135] (by decide +kernel) (by decide +kernel)
set_option maxRecDepth 20000 in
theorem gL_areWheels_X5_count : GoodIn wsL_areWheels (wsV RL 28 RX5 yX5_count wsX5_count) := goodIn_app (goodIn_of _ (by decide +kernel)) ggL_areWheels_X5_count
theorem dL_areWheels_0 : decode cL_areWheels 0 = .ok (.iconst 0, 1) := by decide +kernel
theorem dL_areWheels_1 : decode cL_areWheels 1 = .ok (.istore_n 1, 1) := by decide +kernel
theorem dL_areWheels_2 : decode cL_areWheels 2 = .ok (.iconst 0, 1) := by decide +kernel
theorem dL_areWheels_3 : decode cL_areWheels 3 = .ok (.istore_n 2, 1) := by decide +kernel
theorem dL_areWheels_4 : decode cL_areWheels 4 = .ok (.iconst 1, 1) := by decide +kernel
theorem dL_areWheels_5 : decode cL_areWheels 5 = .ok (.istore_n 3, 1) := by decide +kernel
theorem dL_areWheels_6 : decode cL_areWheels 6 = .ok (.aload_n 0, 1) := by decide +kernel
theorem dL_areWheels_7 : decode cL_areWheels 7 = .ok (.iconst 4, 1) := by decide +kernel
theorem dL_areWheels_8 : decode cL_areWheels 8 = .ok (.iconst 0, 1) := by decide +kernel
theorem dL_areWheels_9 : decode cL_areWheels 9 = .ok (.invokevirtual 9, 3) := by decide +kernel
theorem dL_areWheels_12 : decode cL_areWheels 12 = .ok (.iconst (-1), 1) := by decide +kernel
theorem dL_areWheels_13 : decode cL_areWheels 13 = .ok (.if_icmp .ne 19, 3) := by decide +kernel
theorem dL_areWheels_16 : decode cL_areWheels 16 = .ok (.aload_n 0, 1) := by decide +kernel
theorem dL_areWheels_17 : decode cL_areWheels 17 = .ok (.iconst 0, 1) := by decide +kernel
theorem dL_areWheels_18 : decode cL_areWheels 18 = .ok (.bipush 11, 2) := by decide +kernel
theorem dL_areWheels_20 : decode cL_areWheels 20 = .ok (.invokevirtual 9, 3) := by decide +kernel
theorem dL_areWheels_23 : decode cL_areWheels 23 = .ok (.bipush (-2), 2) := by decide +kernel
theorem dL_areWheels_25 : decode cL_areWheels 25 = .ok (.if_icmp .ne 7, 3) := by decide +kernel
theorem dL_areWheels_28 : decode cL_areWheels 28 = .ok (.iconst 1, 1) := by decide +kernel
theorem dL_areWheels_29 : decode cL_areWheels 29 = .ok (.goto 4, 3) := by decide +kernel
theorem dL_areWheels_32 : decode cL_areWheels 32 = .ok (.iconst 0, 1) := by decide +kernel
theorem dL_areWheels_33 : decode cL_areWheels 33 = .ok (.istore 4, 2) := by decide +kernel
theorem dL_areWheels_35 : decode cL_areWheels 35 = .ok (.iconst 0, 1) := by decide +kernel
theorem dL_areWheels_36 : decode cL_areWheels 36 = .ok (.istore 5, 2) := by decide +kernel
theorem dL_areWheels_38 : decode cL_areWheels 38 = .ok (.iload 5, 2) := by decide +kernel
theorem dL_areWheels_40 : decode cL_areWheels 40 = .ok (.iconst 4, 1) := by decide +kernel
theorem dL_areWheels_41 : decode cL_areWheels 41 = .ok (.if_icmp .ge 363, 3) := by decide +kernel
theorem dL_areWheels_44 : decode cL_areWheels 44 = .ok (.iload 4, 2) := by decide +kernel
theorem dL_areWheels_46 : decode cL_areWheels 46 = .ok (.ifCond .eq 358, 3) := by decide +kernel
theorem dL_areWheels_49 : decode cL_areWheels 49 = .ok (.aload_n 0, 1) := by decide +kernel
theorem dL_areWheels_50 : decode cL_areWheels 50 = .ok (.iload 5, 2) := by decide +kernel
theorem dL_areWheels_52 : decode cL_areWheels 52 = .ok (.iconst 0, 1) := by decide +kernel
theorem dL_areWheels_53 : decode cL_areWheels 53 = .ok (.invokevirtual 9, 3) := by decide +kernel
theorem dL_areWheels_56 : decode cL_areWheels 56 = .ok (.istore 6, 2) := by decide +kernel
theorem dL_areWheels_58 : decode cL_areWheels 58 = .ok (.aload_n 0, 1) := by decide +kernel
theorem dL_areWheels_59 : decode cL_areWheels 59 = .ok (.iload 5, 2) := by decide +kernel
theorem dL_areWheels_61 : decode cL_areWheels 61 = .ok (.iconst 1, 1) := by decide +kernel
theorem dL_areWheels_62 : decode cL_areWheels 62 = .ok (.invokevirtual 9, 3) := by decide +kernel
theorem dL_areWheels_65 : decode cL_areWheels 65 = .ok (.istore 7, 2) := by decide +kernel
theorem dL_areWheels_67 : decode cL_areWheels 67 = .ok (.aload_n 0, 1) := by decide +kernel
theorem dL_areWheels_68 : decode cL_areWheels 68 = .ok (.aload_n 0, 1) := by decide +kernel
theorem dL_areWheels_69 : decode cL_areWheels 69 = .ok (.iload 5, 2) := by decide +kernel
theorem dL_areWheels_71 : decode cL_areWheels 71 = .ok (.iconst 2, 1) := by decide +kernel
theorem dL_areWheels_72 : decode cL_areWheels 72 = .ok (.invokevirtual 9, 3) := by decide +kernel
theorem dL_areWheels_75 : decode cL_areWheels 75 = .ok (.iload 6, 2) := by decide +kernel
theorem dL_areWheels_77 : decode cL_areWheels 77 = .ok (.sipush 4096, 3) := by decide +kernel
theorem dL_areWheels_80 : decode cL_areWheels 80 = .ok (.idiv, 1) := by decide +kernel
theorem dL_areWheels_81 : decode cL_areWheels 81 = .ok (.invokevirtual 15, 3) := by decide +kernel
theorem dL_areWheels_84 : decode cL_areWheels 84 = .ok (.aload_n 0, 1) := by decide +kernel
theorem dL_areWheels_85 : decode cL_areWheels 85 = .ok (.iload 5, 2) := by decide +kernel
theorem dL_areWheels_87 : decode cL_areWheels 87 = .ok (.iconst 3, 1) := by decide +kernel
theorem dL_areWheels_88 : decode cL_areWheels 88 = .ok (.invokevirtual 9, 3) := by decide +kernel
theorem dL_areWheels_91 : decode cL_areWheels 91 = .ok (.imul, 1) := by decide +kernel
theorem dL_areWheels_92 : decode cL_areWheels 92 = .ok (.istore 8, 2) := by decide +kernel
theorem dL_areWheels_94 : decode cL_areWheels 94 = .ok (.ldc 18, 2) := by decide +kernel
theorem dL_areWheels_96 : decode cL_areWheels 96 = .ok (.ldc 18, 2) := by decide +kernel
theorem dL_areWheels_98 : decode cL_areWheels 98 = .ok (.iload 7, 2) := by decide +kernel
theorem dL_areWheels_100 : decode cL_areWheels 100 = .ok (.invokestatic 19, 3) := by decide +kernel
theorem dL_areWheels_103 : decode cL_areWheels 103 = .ok (.idiv, 1) := by decide +kernel
theorem dL_areWheels_104 : decode cL_areWheels 104 = .ok (.istore 9, 2) := by decide +kernel
theorem dL_areWheels_106 : decode cL_areWheels 106 = .ok (.aload_n 0, 1) := by decide +kernel
theorem dL_areWheels_107 : decode cL_areWheels 107 = .ok (.iload 5, 2) := by decide +kernel
theorem dL_areWheels_109 : decode cL_areWheels 109 = .ok (.iconst 4, 1) := by decide +kernel
theorem dL_areWheels_110 : decode cL_areWheels 110 = .ok (.invokevirtual 9, 3) := by decide +kernel
theorem dL_areWheels_113 : decode cL_areWheels 113 = .ok (.iconst 1, 1) := by decide +kernel
theorem dL_areWheels_114 : decode cL_areWheels 114 = .ok (.if_icmp .ne 7, 3) := by decide +kernel
theorem dL_areWheels_117 : decode cL_areWheels 117 = .ok (.iconst 1, 1) := by decide +kernel
theorem dL_areWheels_118 : decode cL_areWheels 118 = .ok (.goto 4, 3) := by decide +kernel
theorem dL_areWheels_121 : decode cL_areWheels 121 = .ok (.iconst 0, 1) := by decide +kernel
theorem dL_areWheels_122 : decode cL_areWheels 122 = .ok (.istore 10, 2) := by decide +kernel
theorem dL_areWheels_124 : decode cL_areWheels 124 = .ok (.iload_n 1, 1) := by decide +kernel
theorem dL_areWheels_125 : decode cL_areWheels 125 = .ok (.iload 10, 2) := by decide +kernel
theorem dL_areWheels_127 : decode cL_areWheels 127 = .ok (.ifCond .eq 8, 3) := by decide +kernel
theorem dL_areWheels_130 : decode cL_areWheels 130 = .ok (.iload 8, 2) := by decide +kernel
theorem dL_areWheels_132 : decode cL_areWheels 132 = .ok (.goto 4, 3) := by decide +kernel
theorem dL_areWheels_135 : decode cL_areWheels 135 = .ok (.iconst 0, 1) := by decide +kernel
theorem dL_areWheels_136 : decode cL_areWheels 136 = .ok (.iadd, 1) := by decide +kernel
theorem dL_areWheels_137 : decode cL_areWheels 137 = .ok (.istore_n 1, 1) := by decide +kernel
theorem dL_areWheels_138 : decode cL_areWheels 138 = .ok (.iload_n 2, 1) := by decide +kernel
theorem dL_areWheels_139 : decode cL_areWheels 139 = .ok (.iload 10, 2) := by decide +kernel
theorem dL_areWheels_141 : decode cL_areWheels 141 = .ok (.ifCond .eq 10, 3) := by decide +kernel
theorem dL_areWheels_144 : decode cL_areWheels 144 = .ok (.iconst 1, 1) := by decide +kernel
theorem dL_areWheels_145 : decode cL_areWheels 145 = .ok (.iload 5, 2) := by decide +kernel
theorem dL_areWheels_147 : decode cL_areWheels 147 = .ok (.ishl, 1) := by decide +kernel
theorem dL_areWheels_148 : decode cL_areWheels 148 = .ok (.goto 4, 3) := by decide +kernel
theorem dL_areWheels_151 : decode cL_areWheels 151 = .ok (.iconst 0, 1) := by decide +kernel
theorem dL_areWheels_152 : decode cL_areWheels 152 = .ok (.ior, 1) := by decide +kernel
theorem dL_areWheels_153 : decode cL_areWheels 153 = .ok (.istore_n 2, 1) := by decide +kernel
theorem dL_areWheels_154 : decode cL_areWheels 154 = .ok (.iload 10, 2) := by decide +kernel
theorem dL_areWheels_156 : decode cL_areWheels 156 = .ok (.ifCond .eq 14, 3) := by decide +kernel
theorem dL_areWheels_159 : decode cL_areWheels 159 = .ok (.iload 9, 2) := by decide +kernel
theorem dL_areWheels_161 : decode cL_areWheels 161 = .ok (.iload_n 3, 1) := by decide +kernel
theorem dL_areWheels_162 : decode cL_areWheels 162 = .ok (.if_icmp .le 8, 3) := by decide +kernel
theorem dL_areWheels_165 : decode cL_areWheels 165 = .ok (.iload 9, 2) := by decide +kernel
theorem dL_areWheels_167 : decode cL_areWheels 167 = .ok (.goto 4, 3) := by decide +kernel
theorem dL_areWheels_170 : decode cL_areWheels 170 = .ok (.iload_n 3, 1) := by decide +kernel
theorem dL_areWheels_171 : decode cL_areWheels 171 = .ok (.istore_n 3, 1) := by decide +kernel
theorem dL_areWheels_172 : decode cL_areWheels 172 = .ok (.aload_n 0, 1) := by decide +kernel
theorem dL_areWheels_173 : decode cL_areWheels 173 = .ok (.iload 5, 2) := by decide +kernel
theorem dL_areWheels_175 : decode cL_areWheels 175 = .ok (.iconst 5, 1) := by decide +kernel
theorem dL_areWheels_176 : decode cL_areWheels 176 = .ok (.invokevirtual 9, 3) := by decide +kernel
theorem dL_areWheels_179 : decode cL_areWheels 179 = .ok (.istore 11, 2) := by decide +kernel
theorem dL_areWheels_181 : decode cL_areWheels 181 = .ok (.iload 6, 2) := by decide +kernel
theorem dL_areWheels_183 : decode cL_areWheels 183 = .ok (.ifCond .lt 142, 3) := by decide +kernel
theorem dL_areWheels_186 : decode cL_areWheels 186 = .ok (.iload 6, 2) := by decide +kernel
theorem dL_areWheels_188 : decode cL_areWheels 188 = .ok (.ldc 18, 2) := by decide +kernel
theorem dL_areWheels_190 : decode cL_areWheels 190 = .ok (.if_icmp .ge 135, 3) := by decide +kernel
theorem dL_areWheels_193 : decode cL_areWheels 193 = .ok (.iload 7, 2) := by decide +kernel
theorem dL_areWheels_195 : decode cL_areWheels 195 = .ok (.ifCond .lt 130, 3) := by decide +kernel
theorem dL_areWheels_198 : decode cL_areWheels 198 = .ok (.iload 7, 2) := by decide +kernel
theorem dL_areWheels_200 : decode cL_areWheels 200 = .ok (.ldc 18, 2) := by decide +kernel
theorem dL_areWheels_202 : decode cL_areWheels 202 = .ok (.if_icmp .ge 123, 3) := by decide +kernel
theorem dL_areWheels_205 : decode cL_areWheels 205 = .ok (.aload_n 0, 1) := by decide +kernel
theorem dL_areWheels_206 : decode cL_areWheels 206 = .ok (.iload 5, 2) := by decide +kernel
theorem dL_areWheels_208 : decode cL_areWheels 208 = .ok (.bipush 6, 2) := by decide +kernel
theorem dL_areWheels_210 : decode cL_areWheels 210 = .ok (.invokevirtual 9, 3) := by decide +kernel
theorem dL_areWheels_213 : decode cL_areWheels 213 = .ok (.iload 8, 2) := by decide +kernel
theorem dL_areWheels_215 : decode cL_areWheels 215 = .ok (.if_icmp .ne 110, 3) := by decide +kernel
theorem dL_areWheels_218 : decode cL_areWheels 218 = .ok (.aload_n 0, 1) := by decide +kernel
theorem dL_areWheels_219 : decode cL_areWheels 219 = .ok (.iload 5, 2) := by decide +kernel
theorem dL_areWheels_221 : decode cL_areWheels 221 = .ok (.bipush 7, 2) := by decide +kernel
theorem dL_areWheels_223 : decode cL_areWheels 223 = .ok (.invokevirtual 9, 3) := by decide +kernel
theorem dL_areWheels_226 : decode cL_areWheels 226 = .ok (.iload 7, 2) := by decide +kernel
theorem dL_areWheels_228 : decode cL_areWheels 228 = .ok (.ldc 24, 2) := by decide +kernel
theorem dL_areWheels_230 : decode cL_areWheels 230 = .ok (.if_icmp .le 11, 3) := by decide +kernel
theorem dL_areWheels_233 : decode cL_areWheels 233 = .ok (.ldc 18, 2) := by decide +kernel
theorem dL_areWheels_235 : decode cL_areWheels 235 = .ok (.iload 7, 2) := by decide +kernel
theorem dL_areWheels_237 : decode cL_areWheels 237 = .ok (.isub, 1) := by decide +kernel
theorem dL_areWheels_238 : decode cL_areWheels 238 = .ok (.goto 5, 3) := by decide +kernel
theorem dL_areWheels_241 : decode cL_areWheels 241 = .ok (.iload 7, 2) := by decide +kernel
theorem dL_areWheels_243 : decode cL_areWheels 243 = .ok (.if_icmp .ne 82, 3) := by decide +kernel
theorem dL_areWheels_246 : decode cL_areWheels 246 = .ok (.aload_n 0, 1) := by decide +kernel
theorem dL_areWheels_247 : decode cL_areWheels 247 = .ok (.iload 5, 2) := by decide +kernel
theorem dL_areWheels_249 : decode cL_areWheels 249 = .ok (.bipush 8, 2) := by decide +kernel
theorem dL_areWheels_251 : decode cL_areWheels 251 = .ok (.invokevirtual 9, 3) := by decide +kernel
theorem dL_areWheels_254 : decode cL_areWheels 254 = .ok (.iload 9, 2) := by decide +kernel
theorem dL_areWheels_256 : decode cL_areWheels 256 = .ok (.if_icmp .ne 69, 3) := by decide +kernel
theorem dL_areWheels_259 : decode cL_areWheels 259 = .ok (.iload 11, 2) := by decide +kernel
theorem dL_areWheels_261 : decode cL_areWheels 261 = .ok (.ifCond .ne 30, 3) := by decide +kernel
theorem dL_areWheels_264 : decode cL_areWheels 264 = .ok (.aload_n 0, 1) := by decide +kernel
theorem dL_areWheels_265 : decode cL_areWheels 265 = .ok (.iload 5, 2) := by decide +kernel
theorem dL_areWheels_267 : decode cL_areWheels 267 = .ok (.bipush 9, 2) := by decide +kernel
theorem dL_areWheels_269 : decode cL_areWheels 269 = .ok (.invokevirtual 9, 3) := by decide +kernel
theorem dL_areWheels_272 : decode cL_areWheels 272 = .ok (.ifCond .ne 53, 3) := by decide +kernel
theorem dL_areWheels_275 : decode cL_areWheels 275 = .ok (.aload_n 0, 1) := by decide +kernel
theorem dL_areWheels_276 : decode cL_areWheels 276 = .ok (.iload 5, 2) := by decide +kernel
theorem dL_areWheels_278 : decode cL_areWheels 278 = .ok (.bipush 10, 2) := by decide +kernel
theorem dL_areWheels_280 : decode cL_areWheels 280 = .ok (.invokevirtual 9, 3) := by decide +kernel
theorem dL_areWheels_283 : decode cL_areWheels 283 = .ok (.iload 7, 2) := by decide +kernel
theorem dL_areWheels_285 : decode cL_areWheels 285 = .ok (.if_icmp .ne 40, 3) := by decide +kernel
theorem dL_areWheels_288 : decode cL_areWheels 288 = .ok (.goto 33, 3) := by decide +kernel
theorem dL_areWheels_291 : decode cL_areWheels 291 = .ok (.aload_n 0, 1) := by decide +kernel
theorem dL_areWheels_292 : decode cL_areWheels 292 = .ok (.iload 5, 2) := by decide +kernel
theorem dL_areWheels_294 : decode cL_areWheels 294 = .ok (.bipush 9, 2) := by decide +kernel
theorem dL_areWheels_296 : decode cL_areWheels 296 = .ok (.invokevirtual 9, 3) := by decide +kernel
theorem dL_areWheels_299 : decode cL_areWheels 299 = .ok (.iload 11, 2) := by decide +kernel
theorem dL_areWheels_301 : decode cL_areWheels 301 = .ok (.if_icmp .lt 24, 3) := by decide +kernel
theorem dL_areWheels_304 : decode cL_areWheels 304 = .ok (.aload_n 0, 1) := by decide +kernel
theorem dL_areWheels_305 : decode cL_areWheels 305 = .ok (.iload 5, 2) := by decide +kernel
theorem dL_areWheels_307 : decode cL_areWheels 307 = .ok (.bipush 9, 2) := by decide +kernel
theorem dL_areWheels_309 : decode cL_areWheels 309 = .ok (.invokevirtual 9, 3) := by decide +kernel
theorem dL_areWheels_312 : decode cL_areWheels 312 = .ok (.sipush 999, 3) := by decide +kernel
theorem dL_areWheels_315 : decode cL_areWheels 315 = .ok (.iload 11, 2) := by decide +kernel
theorem dL_areWheels_317 : decode cL_areWheels 317 = .ok (.imul, 1) := by decide +kernel
theorem dL_areWheels_318 : decode cL_areWheels 318 = .ok (.if_icmp .gt 7, 3) := by decide +kernel
theorem dL_areWheels_321 : decode cL_areWheels 321 = .ok (.iconst 1, 1) := by decide +kernel
theorem dL_areWheels_322 : decode cL_areWheels 322 = .ok (.goto 4, 3) := by decide +kernel
theorem dL_areWheels_325 : decode cL_areWheels 325 = .ok (.iconst 0, 1) := by decide +kernel
theorem dL_areWheels_326 : decode cL_areWheels 326 = .ok (.istore 4, 2) := by decide +kernel
theorem dL_areWheels_328 : decode cL_areWheels 328 = .ok (.iconst 0, 1) := by decide +kernel
theorem dL_areWheels_329 : decode cL_areWheels 329 = .ok (.istore 12, 2) := by decide +kernel
theorem dL_areWheels_331 : decode cL_areWheels 331 = .ok (.iload 12, 2) := by decide +kernel
theorem dL_areWheels_333 : decode cL_areWheels 333 = .ok (.iconst 4, 1) := by decide +kernel
theorem dL_areWheels_334 : decode cL_areWheels 334 = .ok (.if_icmp .ge 64, 3) := by decide +kernel
theorem dL_areWheels_337 : decode cL_areWheels 337 = .ok (.iload 4, 2) := by decide +kernel
theorem dL_areWheels_339 : decode cL_areWheels 339 = .ok (.ifCond .eq 59, 3) := by decide +kernel
theorem dL_areWheels_342 : decode cL_areWheels 342 = .ok (.aload_n 0, 1) := by decide +kernel
theorem dL_areWheels_343 : decode cL_areWheels 343 = .ok (.iload 5, 2) := by decide +kernel
theorem dL_areWheels_345 : decode cL_areWheels 345 = .ok (.bipush 7, 2) := by decide +kernel
theorem dL_areWheels_347 : decode cL_areWheels 347 = .ok (.invokevirtual 9, 3) := by decide +kernel
theorem dL_areWheels_350 : decode cL_areWheels 350 = .ok (.aload_n 0, 1) := by decide +kernel
theorem dL_areWheels_351 : decode cL_areWheels 351 = .ok (.iload 12, 2) := by decide +kernel
theorem dL_areWheels_353 : decode cL_areWheels 353 = .ok (.bipush 7, 2) := by decide +kernel
theorem dL_areWheels_355 : decode cL_areWheels 355 = .ok (.invokevirtual 9, 3) := by decide +kernel
theorem dL_areWheels_358 : decode cL_areWheels 358 = .ok (.isub, 1) := by decide +kernel
theorem dL_areWheels_359 : decode cL_areWheels 359 = .ok (.istore 13, 2) := by decide +kernel
theorem dL_areWheels_361 : decode cL_areWheels 361 = .ok (.aload_n 0, 1) := by decide +kernel
theorem dL_areWheels_362 : decode cL_areWheels 362 = .ok (.iload 5, 2) := by decide +kernel
theorem dL_areWheels_364 : decode cL_areWheels 364 = .ok (.iload 12, 2) := by decide +kernel
theorem dL_areWheels_366 : decode cL_areWheels 366 = .ok (.invokevirtual 25, 3) := by decide +kernel
theorem dL_areWheels_369 : decode cL_areWheels 369 = .ok (.iload 13, 2) := by decide +kernel
theorem dL_areWheels_371 : decode cL_areWheels 371 = .ok (.ifCond .ge 9, 3) := by decide +kernel
theorem dL_areWheels_374 : decode cL_areWheels 374 = .ok (.iload 13, 2) := by decide +kernel
theorem dL_areWheels_376 : decode cL_areWheels 376 = .ok (.ineg, 1) := by decide +kernel
theorem dL_areWheels_377 : decode cL_areWheels 377 = .ok (.goto 5, 3) := by decide +kernel
theorem dL_areWheels_380 : decode cL_areWheels 380 = .ok (.iload 13, 2) := by decide +kernel
theorem dL_areWheels_382 : decode cL_areWheels 382 = .ok (.if_icmp .ne 7, 3) := by decide +kernel
theorem dL_areWheels_385 : decode cL_areWheels 385 = .ok (.iconst 1, 1) := by decide +kernel
theorem dL_areWheels_386 : decode cL_areWheels 386 = .ok (.goto 4, 3) := by decide +kernel
theorem dL_areWheels_389 : decode cL_areWheels 389 = .ok (.iconst 0, 1) := by decide +kernel
theorem dL_areWheels_390 : decode cL_areWheels 390 = .ok (.istore 4, 2) := by decide +kernel
theorem dL_areWheels_392 : decode cL_areWheels 392 = .ok (.iinc 12 1, 3) := by decide +kernel
theorem dL_areWheels_395 : decode cL_areWheels 395 = .ok (.goto (-64), 3) := by decide +kernel
theorem dL_areWheels_398 : decode cL_areWheels 398 = .ok (.iinc 5 1, 3) := by decide +kernel
theorem dL_areWheels_401 : decode cL_areWheels 401 = .ok (.goto (-363), 3) := by decide +kernel
theorem dL_areWheels_404 : decode cL_areWheels 404 = .ok (.iload 4, 2) := by decide +kernel
theorem dL_areWheels_406 : decode cL_areWheels 406 = .ok (.ifCond .eq 52, 3) := by decide +kernel
theorem dL_areWheels_409 : decode cL_areWheels 409 = .ok (.aload_n 0, 1) := by decide +kernel
theorem dL_areWheels_410 : decode cL_areWheels 410 = .ok (.iconst 3, 1) := by decide +kernel
theorem dL_areWheels_411 : decode cL_areWheels 411 = .ok (.invokevirtual 28, 3) := by decide +kernel
theorem dL_areWheels_414 : decode cL_areWheels 414 = .ok (.iload_n 2, 1) := by decide +kernel
theorem dL_areWheels_415 : decode cL_areWheels 415 = .ok (.if_icmp .ne 43, 3) := by decide +kernel
theorem dL_areWheels_418 : decode cL_areWheels 418 = .ok (.aload_n 0, 1) := by decide +kernel
theorem dL_areWheels_419 : decode cL_areWheels 419 = .ok (.bipush 7, 2) := by decide +kernel
theorem dL_areWheels_421 : decode cL_areWheels 421 = .ok (.invokevirtual 28, 3) := by decide +kernel
theorem dL_areWheels_424 : decode cL_areWheels 424 = .ok (.iload_n 3, 1) := by decide +kernel
theorem dL_areWheels_425 : decode cL_areWheels 425 = .ok (.if_icmp .ne 33, 3) := by decide +kernel
theorem dL_areWheels_428 : decode cL_areWheels 428 = .ok (.aload_n 0, 1) := by decide +kernel
theorem dL_areWheels_429 : decode cL_areWheels 429 = .ok (.iconst 4, 1) := by decide +kernel
theorem dL_areWheels_430 : decode cL_areWheels 430 = .ok (.invokevirtual 28, 3) := by decide +kernel
theorem dL_areWheels_433 : decode cL_areWheels 433 = .ok (.iload_n 1, 1) := by decide +kernel
theorem dL_areWheels_434 : decode cL_areWheels 434 = .ok (.aload_n 0, 1) := by decide +kernel
theorem dL_areWheels_435 : decode cL_areWheels 435 = .ok (.iconst 0, 1) := by decide +kernel
theorem dL_areWheels_436 : decode cL_areWheels 436 = .ok (.invokevirtual 28, 3) := by decide +kernel
theorem dL_areWheels_439 : decode cL_areWheels 439 = .ok (.if_icmp .le 11, 3) := by decide +kernel
theorem dL_areWheels_442 : decode cL_areWheels 442 = .ok (.aload_n 0, 1) := by decide +kernel
theorem dL_areWheels_443 : decode cL_areWheels 443 = .ok (.iconst 0, 1) := by decide +kernel
theorem dL_areWheels_444 : decode cL_areWheels 444 = .ok (.invokevirtual 28, 3) := by decide +kernel
theorem dL_areWheels_447 : decode cL_areWheels 447 = .ok (.goto 4, 3) := by decide +kernel
theorem dL_areWheels_450 : decode cL_areWheels 450 = .ok (.iload_n 1, 1) := by decide +kernel
theorem dL_areWheels_451 : decode cL_areWheels 451 = .ok (.if_icmp .ne 7, 3) := by decide +kernel
theorem dL_areWheels_454 : decode cL_areWheels 454 = .ok (.iconst 1, 1) := by decide +kernel
theorem dL_areWheels_455 : decode cL_areWheels 455 = .ok (.goto 4, 3) := by decide +kernel
theorem dL_areWheels_458 : decode cL_areWheels 458 = .ok (.iconst 0, 1) := by decide +kernel
theorem dL_areWheels_459 : decode cL_areWheels 459 = .ok (.ireturn, 1) := by decide +kernel
set_option maxRecDepth 20000 in
theorem ggL_areSamples_X5_ifMade : GoodIn wsL_areSamples wsX5_ifMade := goodIn_r _ [6, 7, 8, 9, 10, 11, 12, 13, 14, 15, 16, 17, 18, 5, 19, 20, 21, 22, 23, 24, 25, 26, 27, 28, 29, 30, 31, 32, 33, 34, 35, 36, 37, 38, 39, 40, 41, 42, 43, 44, 45, 46, 47, 48, 49, 50, 51, 52, 53, 54, 55, 56, 57, 58, 59, 60, 61, 62, 63, 64, 65, 66, 67, 68, 69, 70, 71, 72, 73, 74, 75, 76, 77, 78, 79, 80, 81, 82, 83, 84, 85, 86, 87, 88, 89, 90, 91, 92, 93, 94, 95, 96, 97, 98, 99, 100, 172, 173, 174, 175, 176, 177, 178, 179, 180, 181, 182, 183, 184, 185, 186, 187, 188, 189, 190, 191, 192, 193, 194] (by decide +kernel) (by decide +kernel)
set_option maxRecDepth 20000 in
theorem gL_areSamples_X5_ifMade : GoodIn wsL_areSamples (wsV RL 32 RX5 yX5_ifMade wsX5_ifMade) := goodIn_app (goodIn_of _ (by decide +kernel)) ggL_areSamples_X5_ifMade
set_option maxRecDepth 20000 in
theorem ggL_areSamples_X5_untilClip : GoodIn wsL_areSamples wsX5_untilClip := goodIn_r _ [104, 7, 8, 16, 20, 21, 22, 23, 24, 25, 26, 27, 28, 29, 30, 31, 32, 33, 34, 35, 36, 37, 38, 39, 40, 41, 42, 43, 44, 45, 46, 47, 48, 49, 50, 51, 52, 53, 54, 55, 56, 57, 14, 11, 15, 58, 59, 60, 61, 62, 63, 64, 65, 66, 67, 68, 69, 70, 71, 72, 73, 74, 75, 76, 77, 78, 79, 80, 81, 82, 83, 84, 85, 86, 87, 88, 89, 90, 91, 92, 93, 94, 95, 96, 97, 98, 99, 172, 173, 174, 175, 176, 177, 178, 179, 180, 181, 182, 183, 184, 185, 186, 187, 188, 189, 190, 191, 192, 193, 194] (by decide +kernel) (by decide +kernel)
set_option maxRecDepth 20000 in
theorem gL_areSamples_X5_untilClip : GoodIn wsL_areSamples (wsV RL 35 RX5 yX5_untilClip wsX5_untilClip) := goodIn_app (goodIn_of _ (by decide +kernel)) ggL_areSamples_X5_untilClip
set_option maxRecDepth 20000 in
theorem ggL_areSamples_X5_count : GoodIn wsL_areSamples wsX5_count := goodIn_r _ [108, 8, 109, 110, 16, 13, 14, 11, 15, 111, 112, 113, 114, 115, 116, 117, 118, 119, 23, 120, 31, 58, 121, 60, 61, 62, 63, 64, 65, 66, 67, 68, 26, 69, 122, 123, 124, 125, 126, 10, 12, 127, 128, 129, 40, 130, 43, 87, 172, 173, 174, 175, 176, 177, 178, 179, 180, 181, 182, 183, 184, 195, 196, 197, 198, 199, 200, 201, 202, 203, 204, 185, 186, 187, 188, 189, 190, 191, 192, 193, 194] (by decide +kernel) (by decide +kernel)
set_option maxRecDepth 20000 in
theorem gL_areSamples_X5_count : GoodIn wsL_areSamples (wsV RL 28 RX5 yX5_count wsX5_count) := goodIn_app (goodIn_of _ (by decide +kernel)) ggL_areSamples_X5_count
set_option maxRecDepth 20000 in
theorem ggL_areSamples_X5_sample : GoodIn wsL_areSamples wsX5_sample := goodIn_r _ [134, 8, 110, 17, 18, 5, 19, 100, 76, 77, 23, 78, 36, 32, 79, 80, 81, 82, 172, 173, 174, 175, 176, 177, 178, 179, 180, 181, 182, 183, 184] (by decide +kernel) (by decide +kernel)
set_option maxRecDepth 20000 in
theorem gL_areSamples_X5_sample : GoodIn wsL_areSamples (wsV RL 39 RX5 yX5_sample wsX5_sample) := goodIn_app (goodIn_of _ (by decide +kernel)) ggL_areSamples_X5_sample
set_option maxRecDepth 20000 in
theorem ggL_areSamples_X5_save : GoodIn wsL_areSamples wsX5_save := goodIn_r _ [138, 139, 140, 8, 141, 110, 17, 18, 5, 19, 20, 21, 22, 23, 24, 25, 26, 27, 28, 29, 30, 31, 32, 33, 34, 35, 36, 37, 38, 39, 40, 41, 42, 43, 44, 45, 46, 47, 48, 49, 50, 51, 52, 172, 173, 174, 175, 176, 205, 206, 177, 178, 179, 180, 181, 182, 183, 184, 185, 186, 187, 188, 189, 190, 191, 192, 193, 194] (by decide +kernel) (by decide +kernel)
set_option maxRecDepth 20000 in
theorem gL_areSamples_X5_save : GoodIn wsL_areSamples (wsV RL 42 RX5 yX5_save wsX5_save) := goodIn_app (goodIn_of _ (by decide +kernel)) ggL_areSamples_X5_save
set_option maxRecDepth 20000 in
theorem ggL_areSamples_X5_make : GoodIn wsL_areSamples wsX5_make := goodIn_r _ [145, 8, 115, 17, 18, 5, 19, 146, 147, 148, 23, 149, 150, 32, 151, 152, 153, 154, 155, 156, 157, 158, 159, 14, 11, 15, 160, 80, 81, 82, 161, 21, 22, 24, 25, 26, 27, 28, 29, 30, 31, 33, 34, 35, 36, 37, 38, 39, 40, 41, 42, 43, 44, 45, 46, 47, 48, 49, 50, 51, 52, 162, 163, 164, 165, 166, 167, 54, 55, 56, 57, 58, 59, 60, 61, 62, 63, 64, 65, 66, 67, 68, 69, 70, 71, 72, 73, 74, 75, 76, 77, 78, 79, 83, 84, 85, 86, 87, 88, 89, 90, 91, 92, 93, 94, 95, 96, 97, 98, 99, 100, 172, 173, 174, 175, 176, 177, 178, 179, 180, 181, 182, 183, 184, 202, 203, 204, 185, 186, 187, 188, 189, 190, 191, 192, 193, 194] (by decide +kernel) (by decide +kernel)
set_option maxRecDepth 20000 in
theorem gL_areSamples_X5_make : GoodIn wsL_areSamples (wsV RL 45 RX5 yX5_make wsX5_make) := goodIn_app (goodIn_of _ (by decide +kernel)) ggL_areSamples_X5_make
set_option maxRecDepth 20000 in
theorem ggL_areSamples_X5_restore : GoodIn wsL_areSamples wsX5_restore := goodIn_r _ [171, 139, 141, 115, 8, 140, 110, 17, 18, 5, 19, 151, 152, 153, 154, 155, 156, 157, 158, 159, 14, 11, 15, 160, 80, 81, 82, 161, 21, 22, 23, 24, 25, 26, 27, 28, 29, 30, 31, 32, 33, 34, 35, 36, 37, 38, 39, 40, 41, 42, 43, 44, 45, 46, 47, 48, 49, 50, 51, 52, 20, 172, 173, 174, 175, 176, 205, 206, 177, 178, 179, 180, 181, 182, 183, 184, 202, 203, 204, 185, 186, 187, 188, 189, 190, 191, 192, 193, 194] (by decide +kernel) (by decide +kernel)
set_option maxRecDepth 20000 in
theorem gL_areSamples_X5_restore : GoodIn wsL_areSamples (wsV RL 49 RX5 yX5_restore wsX5_restore) := goodIn_app (goodIn_of _ (by decide +kernel)) ggL_areSamples_X5_restore
theorem dL_areSamples_0 : decode cL_areSamples 0 = .ok (.iconst 1, 1) := by decide +kernel
theorem dL_areSamples_1 : decode cL_areSamples 1 = .ok (.iload_n 1, 1) := by decide +kernel
theorem dL_areSamples_2 : decode cL_areSamples 2 = .ok (.bipush 31, 2) := by decide +kernel
theorem dL_areSamples_4 : decode cL_areSamples 4 = .ok (.irem, 1) := by decide +kernel
theorem dL_areSamples_5 : decode cL_areSamples 5 = .ok (.iadd, 1) := by decide +kernel
theorem dL_areSamples_6 : decode cL_areSamples 6 = .ok (.istore_n 2, 1) := by decide +kernel
theorem dL_areSamples_7 : decode cL_areSamples 7 = .ok (.aload_n 0, 1) := by decide +kernel
theorem dL_areSamples_8 : decode cL_areSamples 8 = .ok (.iload_n 2, 1) := by decide +kernel
theorem dL_areSamples_9 : decode cL_areSamples 9 = .ok (.iconst 0, 1) := by decide +kernel
theorem dL_areSamples_10 : decode cL_areSamples 10 = .ok (.invokevirtual 32, 3) := by decide +kernel
theorem dL_areSamples_13 : decode cL_areSamples 13 = .ok (.istore_n 3, 1) := by decide +kernel
theorem dL_areSamples_14 : decode cL_areSamples 14 = .ok (.aload_n 0, 1) := by decide +kernel
theorem dL_areSamples_15 : decode cL_areSamples 15 = .ok (.iload_n 2, 1) := by decide +kernel
theorem dL_areSamples_16 : decode cL_areSamples 16 = .ok (.iconst 1, 1) := by decide +kernel
theorem dL_areSamples_17 : decode cL_areSamples 17 = .ok (.invokevirtual 32, 3) := by decide +kernel
theorem dL_areSamples_20 : decode cL_areSamples 20 = .ok (.istore 4, 2) := by decide +kernel
theorem dL_areSamples_22 : decode cL_areSamples 22 = .ok (.aload_n 0, 1) := by decide +kernel
theorem dL_areSamples_23 : decode cL_areSamples 23 = .ok (.iload_n 2, 1) := by decide +kernel
theorem dL_areSamples_24 : decode cL_areSamples 24 = .ok (.iconst 2, 1) := by decide +kernel
theorem dL_areSamples_25 : decode cL_areSamples 25 = .ok (.invokevirtual 32, 3) := by decide +kernel
theorem dL_areSamples_28 : decode cL_areSamples 28 = .ok (.istore 5, 2) := by decide +kernel
theorem dL_areSamples_30 : decode cL_areSamples 30 = .ok (.aload_n 0, 1) := by decide +kernel
theorem dL_areSamples_31 : decode cL_areSamples 31 = .ok (.iload_n 2, 1) := by decide +kernel
theorem dL_areSamples_32 : decode cL_areSamples 32 = .ok (.iconst 3, 1) := by decide +kernel
theorem dL_areSamples_33 : decode cL_areSamples 33 = .ok (.invokevirtual 32, 3) := by decide +kernel
theorem dL_areSamples_36 : decode cL_areSamples 36 = .ok (.istore 6, 2) := by decide +kernel
theorem dL_areSamples_38 : decode cL_areSamples 38 = .ok (.aload_n 0, 1) := by decide +kernel
theorem dL_areSamples_39 : decode cL_areSamples 39 = .ok (.invokevirtual 35, 3) := by decide +kernel
theorem dL_areSamples_42 : decode cL_areSamples 42 = .ok (.istore 7, 2) := by decide +kernel
theorem dL_areSamples_44 : decode cL_areSamples 44 = .ok (.aload_n 0, 1) := by decide +kernel
theorem dL_areSamples_45 : decode cL_areSamples 45 = .ok (.iconst 1, 1) := by decide +kernel
theorem dL_areSamples_46 : decode cL_areSamples 46 = .ok (.invokevirtual 28, 3) := by decide +kernel
theorem dL_areSamples_49 : decode cL_areSamples 49 = .ok (.istore 8, 2) := by decide +kernel
theorem dL_areSamples_51 : decode cL_areSamples 51 = .ok (.aload_n 0, 1) := by decide +kernel
theorem dL_areSamples_52 : decode cL_areSamples 52 = .ok (.iconst 2, 1) := by decide +kernel
theorem dL_areSamples_53 : decode cL_areSamples 53 = .ok (.invokevirtual 28, 3) := by decide +kernel
theorem dL_areSamples_56 : decode cL_areSamples 56 = .ok (.istore 9, 2) := by decide +kernel
theorem dL_areSamples_58 : decode cL_areSamples 58 = .ok (.aload_n 0, 1) := by decide +kernel
theorem dL_areSamples_59 : decode cL_areSamples 59 = .ok (.iconst 5, 1) := by decide +kernel
theorem dL_areSamples_60 : decode cL_areSamples 60 = .ok (.invokevirtual 28, 3) := by decide +kernel
theorem dL_areSamples_63 : decode cL_areSamples 63 = .ok (.istore 10, 2) := by decide +kernel
theorem dL_areSamples_65 : decode cL_areSamples 65 = .ok (.aload_n 0, 1) := by decide +kernel
theorem dL_areSamples_66 : decode cL_areSamples 66 = .ok (.bipush 6, 2) := by decide +kernel
theorem dL_areSamples_68 : decode cL_areSamples 68 = .ok (.invokevirtual 28, 3) := by decide +kernel
theorem dL_areSamples_71 : decode cL_areSamples 71 = .ok (.istore 11, 2) := by decide +kernel
theorem dL_areSamples_73 : decode cL_areSamples 73 = .ok (.iload 8, 2) := by decide +kernel
theorem dL_areSamples_75 : decode cL_areSamples 75 = .ok (.ifCond .le 11, 3) := by decide +kernel
theorem dL_areSamples_78 : decode cL_areSamples 78 = .ok (.aload_n 0, 1) := by decide +kernel
theorem dL_areSamples_79 : decode cL_areSamples 79 = .ok (.iconst 0, 1) := by decide +kernel
theorem dL_areSamples_80 : decode cL_areSamples 80 = .ok (.invokevirtual 39, 3) := by decide +kernel
theorem dL_areSamples_83 : decode cL_areSamples 83 = .ok (.goto 4, 3) := by decide +kernel
theorem dL_areSamples_86 : decode cL_areSamples 86 = .ok (.iconst (-1), 1) := by decide +kernel
theorem dL_areSamples_87 : decode cL_areSamples 87 = .ok (.istore 12, 2) := by decide +kernel
theorem dL_areSamples_89 : decode cL_areSamples 89 = .ok (.iconst 0, 1) := by decide +kernel
theorem dL_areSamples_90 : decode cL_areSamples 90 = .ok (.istore 13, 2) := by decide +kernel
theorem dL_areSamples_92 : decode cL_areSamples 92 = .ok (.sipush 1000, 3) := by decide +kernel
theorem dL_areSamples_95 : decode cL_areSamples 95 = .ok (.istore 14, 2) := by decide +kernel
theorem dL_areSamples_97 : decode cL_areSamples 97 = .ok (.iconst 0, 1) := by decide +kernel
theorem dL_areSamples_98 : decode cL_areSamples 98 = .ok (.istore 15, 2) := by decide +kernel
theorem dL_areSamples_100 : decode cL_areSamples 100 = .ok (.aload_n 0, 1) := by decide +kernel
theorem dL_areSamples_101 : decode cL_areSamples 101 = .ok (.iconst 0, 1) := by decide +kernel
theorem dL_areSamples_102 : decode cL_areSamples 102 = .ok (.invokevirtual 42, 3) := by decide +kernel
theorem dL_areSamples_105 : decode cL_areSamples 105 = .ok (.iload 8, 2) := by decide +kernel
theorem dL_areSamples_107 : decode cL_areSamples 107 = .ok (.if_icmp .ne 7, 3) := by decide +kernel
theorem dL_areSamples_110 : decode cL_areSamples 110 = .ok (.iconst 1, 1) := by decide +kernel
theorem dL_areSamples_111 : decode cL_areSamples 111 = .ok (.goto 4, 3) := by decide +kernel
theorem dL_areSamples_114 : decode cL_areSamples 114 = .ok (.iconst 0, 1) := by decide +kernel
theorem dL_areSamples_115 : decode cL_areSamples 115 = .ok (.istore 16, 2) := by decide +kernel
theorem dL_areSamples_117 : decode cL_areSamples 117 = .ok (.iconst 0, 1) := by decide +kernel
theorem dL_areSamples_118 : decode cL_areSamples 118 = .ok (.istore 17, 2) := by decide +kernel
theorem dL_areSamples_120 : decode cL_areSamples 120 = .ok (.iload 17, 2) := by decide +kernel
theorem dL_areSamples_122 : decode cL_areSamples 122 = .ok (.iload_n 2, 1) := by decide +kernel
theorem dL_areSamples_123 : decode cL_areSamples 123 = .ok (.if_icmp .ge 197, 3) := by decide +kernel
theorem dL_areSamples_126 : decode cL_areSamples 126 = .ok (.iload 16, 2) := by decide +kernel
theorem dL_areSamples_128 : decode cL_areSamples 128 = .ok (.ifCond .eq 192, 3) := by decide +kernel
theorem dL_areSamples_131 : decode cL_areSamples 131 = .ok (.aload_n 0, 1) := by decide +kernel
theorem dL_areSamples_132 : decode cL_areSamples 132 = .ok (.iconst 4, 1) := by decide +kernel
theorem dL_areSamples_133 : decode cL_areSamples 133 = .ok (.invokevirtual 28, 3) := by decide +kernel
theorem dL_areSamples_136 : decode cL_areSamples 136 = .ok (.istore 18, 2) := by decide +kernel
theorem dL_areSamples_138 : decode cL_areSamples 138 = .ok (.aload_n 0, 1) := by decide +kernel
theorem dL_areSamples_139 : decode cL_areSamples 139 = .ok (.iconst 2, 1) := by decide +kernel
theorem dL_areSamples_140 : decode cL_areSamples 140 = .ok (.invokevirtual 28, 3) := by decide +kernel
theorem dL_areSamples_143 : decode cL_areSamples 143 = .ok (.istore 19, 2) := by decide +kernel
theorem dL_areSamples_145 : decode cL_areSamples 145 = .ok (.aload_n 0, 1) := by decide +kernel
theorem dL_areSamples_146 : decode cL_areSamples 146 = .ok (.iconst 1, 1) := by decide +kernel
theorem dL_areSamples_147 : decode cL_areSamples 147 = .ok (.invokevirtual 45, 3) := by decide +kernel
theorem dL_areSamples_150 : decode cL_areSamples 150 = .ok (.istore 20, 2) := by decide +kernel
theorem dL_areSamples_152 : decode cL_areSamples 152 = .ok (.iload 20, 2) := by decide +kernel
theorem dL_areSamples_154 : decode cL_areSamples 154 = .ok (.iload 13, 2) := by decide +kernel
theorem dL_areSamples_156 : decode cL_areSamples 156 = .ok (.if_icmp .le 8, 3) := by decide +kernel
theorem dL_areSamples_159 : decode cL_areSamples 159 = .ok (.iload 20, 2) := by decide +kernel
theorem dL_areSamples_161 : decode cL_areSamples 161 = .ok (.goto 5, 3) := by decide +kernel
theorem dL_areSamples_164 : decode cL_areSamples 164 = .ok (.iload 13, 2) := by decide +kernel
theorem dL_areSamples_166 : decode cL_areSamples 166 = .ok (.istore 13, 2) := by decide +kernel
theorem dL_areSamples_168 : decode cL_areSamples 168 = .ok (.iload 20, 2) := by decide +kernel
theorem dL_areSamples_170 : decode cL_areSamples 170 = .ok (.iload 14, 2) := by decide +kernel
theorem dL_areSamples_172 : decode cL_areSamples 172 = .ok (.if_icmp .ge 8, 3) := by decide +kernel
theorem dL_areSamples_175 : decode cL_areSamples 175 = .ok (.iload 20, 2) := by decide +kernel
theorem dL_areSamples_177 : decode cL_areSamples 177 = .ok (.goto 5, 3) := by decide +kernel
theorem dL_areSamples_180 : decode cL_areSamples 180 = .ok (.iload 14, 2) := by decide +kernel
theorem dL_areSamples_182 : decode cL_areSamples 182 = .ok (.istore 14, 2) := by decide +kernel
theorem dL_areSamples_184 : decode cL_areSamples 184 = .ok (.iload 15, 2) := by decide +kernel
theorem dL_areSamples_186 : decode cL_areSamples 186 = .ok (.ifCond .ne 20, 3) := by decide +kernel
theorem dL_areSamples_189 : decode cL_areSamples 189 = .ok (.aload_n 0, 1) := by decide +kernel
theorem dL_areSamples_190 : decode cL_areSamples 190 = .ok (.iconst 2, 1) := by decide +kernel
theorem dL_areSamples_191 : decode cL_areSamples 191 = .ok (.invokevirtual 28, 3) := by decide +kernel
theorem dL_areSamples_194 : decode cL_areSamples 194 = .ok (.iload 19, 2) := by decide +kernel
theorem dL_areSamples_196 : decode cL_areSamples 196 = .ok (.if_icmp .le 10, 3) := by decide +kernel
theorem dL_areSamples_199 : decode cL_areSamples 199 = .ok (.iload 17, 2) := by decide +kernel
theorem dL_areSamples_201 : decode cL_areSamples 201 = .ok (.iconst 1, 1) := by decide +kernel
theorem dL_areSamples_202 : decode cL_areSamples 202 = .ok (.iadd, 1) := by decide +kernel
theorem dL_areSamples_203 : decode cL_areSamples 203 = .ok (.goto 5, 3) := by decide +kernel
theorem dL_areSamples_206 : decode cL_areSamples 206 = .ok (.iload 15, 2) := by decide +kernel
theorem dL_areSamples_208 : decode cL_areSamples 208 = .ok (.istore 15, 2) := by decide +kernel
theorem dL_areSamples_210 : decode cL_areSamples 210 = .ok (.iload 10, 2) := by decide +kernel
theorem dL_areSamples_212 : decode cL_areSamples 212 = .ok (.iload 20, 2) := by decide +kernel
theorem dL_areSamples_214 : decode cL_areSamples 214 = .ok (.iadd, 1) := by decide +kernel
theorem dL_areSamples_215 : decode cL_areSamples 215 = .ok (.ldc 48, 2) := by decide +kernel
theorem dL_areSamples_217 : decode cL_areSamples 217 = .ok (.irem, 1) := by decide +kernel
theorem dL_areSamples_218 : decode cL_areSamples 218 = .ok (.istore 10, 2) := by decide +kernel
theorem dL_areSamples_220 : decode cL_areSamples 220 = .ok (.iload 11, 2) := by decide +kernel
theorem dL_areSamples_222 : decode cL_areSamples 222 = .ok (.iload 12, 2) := by decide +kernel
theorem dL_areSamples_224 : decode cL_areSamples 224 = .ok (.ifCond .lt 14, 3) := by decide +kernel
theorem dL_areSamples_227 : decode cL_areSamples 227 = .ok (.iload 20, 2) := by decide +kernel
theorem dL_areSamples_229 : decode cL_areSamples 229 = .ok (.iload 12, 2) := by decide +kernel
theorem dL_areSamples_231 : decode cL_areSamples 231 = .ok (.if_icmp .le 7, 3) := by decide +kernel
theorem dL_areSamples_234 : decode cL_areSamples 234 = .ok (.iconst 1, 1) := by decide +kernel
theorem dL_areSamples_235 : decode cL_areSamples 235 = .ok (.goto 4, 3) := by decide +kernel
theorem dL_areSamples_238 : decode cL_areSamples 238 = .ok (.iconst 0, 1) := by decide +kernel
theorem dL_areSamples_239 : decode cL_areSamples 239 = .ok (.iadd, 1) := by decide +kernel
theorem dL_areSamples_240 : decode cL_areSamples 240 = .ok (.istore 11, 2) := by decide +kernel
theorem dL_areSamples_242 : decode cL_areSamples 242 = .ok (.iload 20, 2) := by decide +kernel
theorem dL_areSamples_244 : decode cL_areSamples 244 = .ok (.istore 12, 2) := by decide +kernel
theorem dL_areSamples_246 : decode cL_areSamples 246 = .ok (.iload 20, 2) := by decide +kernel
theorem dL_areSamples_248 : decode cL_areSamples 248 = .ok (.iload 18, 2) := by decide +kernel
theorem dL_areSamples_250 : decode cL_areSamples 250 = .ok (.if_icmp .ne 61, 3) := by decide +kernel
theorem dL_areSamples_253 : decode cL_areSamples 253 = .ok (.aload_n 0, 1) := by decide +kernel
theorem dL_areSamples_254 : decode cL_areSamples 254 = .ok (.iconst 0, 1) := by decide +kernel
theorem dL_areSamples_255 : decode cL_areSamples 255 = .ok (.invokevirtual 39, 3) := by decide +kernel
theorem dL_areSamples_258 : decode cL_areSamples 258 = .ok (.iload 20, 2) := by decide +kernel
theorem dL_areSamples_260 : decode cL_areSamples 260 = .ok (.if_icmp .ne 51, 3) := by decide +kernel
theorem dL_areSamples_263 : decode cL_areSamples 263 = .ok (.iload 20, 2) := by decide +kernel
theorem dL_areSamples_265 : decode cL_areSamples 265 = .ok (.aload_n 0, 1) := by decide +kernel
theorem dL_areSamples_266 : decode cL_areSamples 266 = .ok (.iconst 0, 1) := by decide +kernel
theorem dL_areSamples_267 : decode cL_areSamples 267 = .ok (.invokevirtual 28, 3) := by decide +kernel
theorem dL_areSamples_270 : decode cL_areSamples 270 = .ok (.if_icmp .gt 41, 3) := by decide +kernel
theorem dL_areSamples_273 : decode cL_areSamples 273 = .ok (.iload 17, 2) := by decide +kernel
theorem dL_areSamples_275 : decode cL_areSamples 275 = .ok (.ifCond .eq 11, 3) := by decide +kernel
theorem dL_areSamples_278 : decode cL_areSamples 278 = .ok (.aload_n 0, 1) := by decide +kernel
theorem dL_areSamples_279 : decode cL_areSamples 279 = .ok (.iconst 1, 1) := by decide +kernel
theorem dL_areSamples_280 : decode cL_areSamples 280 = .ok (.invokevirtual 39, 3) := by decide +kernel
theorem dL_areSamples_283 : decode cL_areSamples 283 = .ok (.ifCond .lt 28, 3) := by decide +kernel
theorem dL_areSamples_286 : decode cL_areSamples 286 = .ok (.aload_n 0, 1) := by decide +kernel
theorem dL_areSamples_287 : decode cL_areSamples 287 = .ok (.iconst 5, 1) := by decide +kernel
theorem dL_areSamples_288 : decode cL_areSamples 288 = .ok (.invokevirtual 28, 3) := by decide +kernel
theorem dL_areSamples_291 : decode cL_areSamples 291 = .ok (.iload 10, 2) := by decide +kernel
theorem dL_areSamples_293 : decode cL_areSamples 293 = .ok (.if_icmp .ne 18, 3) := by decide +kernel
theorem dL_areSamples_296 : decode cL_areSamples 296 = .ok (.aload_n 0, 1) := by decide +kernel
theorem dL_areSamples_297 : decode cL_areSamples 297 = .ok (.bipush 6, 2) := by decide +kernel
theorem dL_areSamples_299 : decode cL_areSamples 299 = .ok (.invokevirtual 28, 3) := by decide +kernel
theorem dL_areSamples_302 : decode cL_areSamples 302 = .ok (.iload 11, 2) := by decide +kernel
theorem dL_areSamples_304 : decode cL_areSamples 304 = .ok (.if_icmp .ne 7, 3) := by decide +kernel
theorem dL_areSamples_307 : decode cL_areSamples 307 = .ok (.iconst 1, 1) := by decide +kernel
theorem dL_areSamples_308 : decode cL_areSamples 308 = .ok (.goto 4, 3) := by decide +kernel
theorem dL_areSamples_311 : decode cL_areSamples 311 = .ok (.iconst 0, 1) := by decide +kernel
theorem dL_areSamples_312 : decode cL_areSamples 312 = .ok (.istore 16, 2) := by decide +kernel
theorem dL_areSamples_314 : decode cL_areSamples 314 = .ok (.iinc 17 1, 3) := by decide +kernel
theorem dL_areSamples_317 : decode cL_areSamples 317 = .ok (.goto (-197), 3) := by decide +kernel
theorem dL_areSamples_320 : decode cL_areSamples 320 = .ok (.iload 16, 2) := by decide +kernel
theorem dL_areSamples_322 : decode cL_areSamples 322 = .ok (.ifCond .eq 78, 3) := by decide +kernel
theorem dL_areSamples_325 : decode cL_areSamples 325 = .ok (.iload 13, 2) := by decide +kernel
theorem dL_areSamples_327 : decode cL_areSamples 327 = .ok (.iload_n 3, 1) := by decide +kernel
theorem dL_areSamples_328 : decode cL_areSamples 328 = .ok (.if_icmp .ne 72, 3) := by decide +kernel
theorem dL_areSamples_331 : decode cL_areSamples 331 = .ok (.iload 14, 2) := by decide +kernel
theorem dL_areSamples_333 : decode cL_areSamples 333 = .ok (.iload 4, 2) := by decide +kernel
theorem dL_areSamples_335 : decode cL_areSamples 335 = .ok (.if_icmp .ne 65, 3) := by decide +kernel
theorem dL_areSamples_338 : decode cL_areSamples 338 = .ok (.iload 12, 2) := by decide +kernel
theorem dL_areSamples_340 : decode cL_areSamples 340 = .ok (.iload 6, 2) := by decide +kernel
theorem dL_areSamples_342 : decode cL_areSamples 342 = .ok (.if_icmp .ne 58, 3) := by decide +kernel
theorem dL_areSamples_345 : decode cL_areSamples 345 = .ok (.aload_n 0, 1) := by decide +kernel
theorem dL_areSamples_346 : decode cL_areSamples 346 = .ok (.iconst 2, 1) := by decide +kernel
theorem dL_areSamples_347 : decode cL_areSamples 347 = .ok (.invokevirtual 28, 3) := by decide +kernel
theorem dL_areSamples_350 : decode cL_areSamples 350 = .ok (.iload 9, 2) := by decide +kernel
theorem dL_areSamples_352 : decode cL_areSamples 352 = .ok (.isub, 1) := by decide +kernel
theorem dL_areSamples_353 : decode cL_areSamples 353 = .ok (.iload 5, 2) := by decide +kernel
theorem dL_areSamples_355 : decode cL_areSamples 355 = .ok (.if_icmp .ne 45, 3) := by decide +kernel
theorem dL_areSamples_358 : decode cL_areSamples 358 = .ok (.aload_n 0, 1) := by decide +kernel
theorem dL_areSamples_359 : decode cL_areSamples 359 = .ok (.iconst 1, 1) := by decide +kernel
theorem dL_areSamples_360 : decode cL_areSamples 360 = .ok (.invokevirtual 28, 3) := by decide +kernel
theorem dL_areSamples_363 : decode cL_areSamples 363 = .ok (.iload 8, 2) := by decide +kernel
theorem dL_areSamples_365 : decode cL_areSamples 365 = .ok (.iload_n 2, 1) := by decide +kernel
theorem dL_areSamples_366 : decode cL_areSamples 366 = .ok (.iadd, 1) := by decide +kernel
theorem dL_areSamples_367 : decode cL_areSamples 367 = .ok (.if_icmp .ne 33, 3) := by decide +kernel
theorem dL_areSamples_370 : decode cL_areSamples 370 = .ok (.iload 15, 2) := by decide +kernel
theorem dL_areSamples_372 : decode cL_areSamples 372 = .ok (.ifCond .ne 17, 3) := by decide +kernel
theorem dL_areSamples_375 : decode cL_areSamples 375 = .ok (.iload 7, 2) := by decide +kernel
theorem dL_areSamples_377 : decode cL_areSamples 377 = .ok (.ifCond .lt 19, 3) := by decide +kernel
theorem dL_areSamples_380 : decode cL_areSamples 380 = .ok (.iload 7, 2) := by decide +kernel
theorem dL_areSamples_382 : decode cL_areSamples 382 = .ok (.iload_n 2, 1) := by decide +kernel
theorem dL_areSamples_383 : decode cL_areSamples 383 = .ok (.if_icmp .le 17, 3) := by decide +kernel
theorem dL_areSamples_386 : decode cL_areSamples 386 = .ok (.goto 10, 3) := by decide +kernel
theorem dL_areSamples_389 : decode cL_areSamples 389 = .ok (.iload 7, 2) := by decide +kernel
theorem dL_areSamples_391 : decode cL_areSamples 391 = .ok (.iload 15, 2) := by decide +kernel
theorem dL_areSamples_393 : decode cL_areSamples 393 = .ok (.if_icmp .ne 7, 3) := by decide +kernel
theorem dL_areSamples_396 : decode cL_areSamples 396 = .ok (.iconst 1, 1) := by decide +kernel
theorem dL_areSamples_397 : decode cL_areSamples 397 = .ok (.goto 4, 3) := by decide +kernel
theorem dL_areSamples_400 : decode cL_areSamples 400 = .ok (.iconst 0, 1) := by decide +kernel
theorem dL_areSamples_401 : decode cL_areSamples 401 = .ok (.istore 16, 2) := by decide +kernel
theorem dL_areSamples_403 : decode cL_areSamples 403 = .ok (.iload 16, 2) := by decide +kernel
theorem dL_areSamples_405 : decode cL_areSamples 405 = .ok (.ifCond .eq 48, 3) := by decide +kernel
theorem dL_areSamples_408 : decode cL_areSamples 408 = .ok (.aload_n 0, 1) := by decide +kernel
theorem dL_areSamples_409 : decode cL_areSamples 409 = .ok (.iconst 0, 1) := by decide +kernel
theorem dL_areSamples_410 : decode cL_areSamples 410 = .ok (.invokevirtual 49, 3) := by decide +kernel
theorem dL_areSamples_413 : decode cL_areSamples 413 = .ok (.iload 8, 2) := by decide +kernel
theorem dL_areSamples_415 : decode cL_areSamples 415 = .ok (.if_icmp .ne 38, 3) := by decide +kernel
theorem dL_areSamples_418 : decode cL_areSamples 418 = .ok (.aload_n 0, 1) := by decide +kernel
theorem dL_areSamples_419 : decode cL_areSamples 419 = .ok (.iload_n 2, 1) := by decide +kernel
theorem dL_areSamples_420 : decode cL_areSamples 420 = .ok (.invokevirtual 45, 3) := by decide +kernel
theorem dL_areSamples_423 : decode cL_areSamples 423 = .ok (.iload 6, 2) := by decide +kernel
theorem dL_areSamples_425 : decode cL_areSamples 425 = .ok (.if_icmp .ne 28, 3) := by decide +kernel
theorem dL_areSamples_428 : decode cL_areSamples 428 = .ok (.aload_n 0, 1) := by decide +kernel
theorem dL_areSamples_429 : decode cL_areSamples 429 = .ok (.iconst 5, 1) := by decide +kernel
theorem dL_areSamples_430 : decode cL_areSamples 430 = .ok (.invokevirtual 28, 3) := by decide +kernel
theorem dL_areSamples_433 : decode cL_areSamples 433 = .ok (.iload 10, 2) := by decide +kernel
theorem dL_areSamples_435 : decode cL_areSamples 435 = .ok (.if_icmp .ne 18, 3) := by decide +kernel
theorem dL_areSamples_438 : decode cL_areSamples 438 = .ok (.aload_n 0, 1) := by decide +kernel
theorem dL_areSamples_439 : decode cL_areSamples 439 = .ok (.bipush 6, 2) := by decide +kernel
theorem dL_areSamples_441 : decode cL_areSamples 441 = .ok (.invokevirtual 28, 3) := by decide +kernel
theorem dL_areSamples_444 : decode cL_areSamples 444 = .ok (.iload 11, 2) := by decide +kernel
theorem dL_areSamples_446 : decode cL_areSamples 446 = .ok (.if_icmp .ne 7, 3) := by decide +kernel
theorem dL_areSamples_449 : decode cL_areSamples 449 = .ok (.iconst 1, 1) := by decide +kernel
theorem dL_areSamples_450 : decode cL_areSamples 450 = .ok (.goto 4, 3) := by decide +kernel
theorem dL_areSamples_453 : decode cL_areSamples 453 = .ok (.iconst 0, 1) := by decide +kernel
theorem dL_areSamples_454 : decode cL_areSamples 454 = .ok (.ireturn, 1) := by decide +kernel
set_option maxRecDepth 20000 in
theorem ggL_acts_X5_wheel : GoodIn wsL_acts wsX5_wheel := goodIn_r _ [6, 7, 8, 9, 10, 11, 12, 13, 14, 15, 16, 5, 17, 18, 19, 20, 21, 22, 23, 24, 25, 26, 27, 28, 29, 30, 31, 32, 33, 34, 35, 36, 37, 38, 39, 40, 41, 42, 43, 44, 45, 46, 47, 48, 49, 50, 51, 52, 53, 245, 246, 247, 248, 249, 250, 251, 252, 253, 254, 255, 256, 257, 258, 259, 260, 261, 262, 263, 264, 265, 266, 267] (by decide +kernel) (by decide +kernel)
set_option maxRecDepth 20000 in
theorem gL_acts_X5_wheel : GoodIn wsL_acts (wsV RL 9 RX5 yX5_wheel wsX5_wheel) := goodIn_app (goodIn_of _ (by decide +kernel)) ggL_acts_X5_wheel
set_option maxRecDepth 20000 in
theorem ggL_acts_X5_step : GoodIn wsL_acts wsX5_step := goodIn_r _ [57, 58, 59, 7, 8, 10, 15, 16, 5, 17, 18, 19, 20, 60, 61, 62, 63, 64, 65, 66, 67, 68, 69, 70, 71, 72, 73, 74, 75, 76, 77, 78, 24, 79, 80, 28, 81, 82, 83, 84, 85, 86, 87, 88, 89, 90, 91, 92, 93, 33, 94, 95, 35, 96, 97, 98, 46, 53, 99, 47, 100, 48, 101, 102, 103, 104, 245, 246, 247, 248, 249, 250, 251, 252, 253, 254, 255, 256, 257, 258, 259, 260, 261, 262, 263, 264, 265, 266, 267, 268, 269, 270] (by decide +kernel) (by decide +kernel)
set_option maxRecDepth 20000 in
theorem gL_acts_X5_step : GoodIn wsL_acts (wsV RL 52 RX5 yX5_step wsX5_step) := goodIn_app (goodIn_of _ (by decide +kernel)) ggL_acts_X5_step
set_option maxRecDepth 20000 in
theorem ggL_acts_X5_table : GoodIn wsL_acts wsX5_table := goodIn_r _ [108, 59, 7, 8, 11, 15, 16, 5, 17, 18, 19, 20, 109, 110, 111, 60, 61, 62, 63, 64, 65, 66, 67, 68, 69, 70, 71, 72, 73, 74, 75, 76, 77, 78, 24, 79, 80, 28, 81, 82, 83, 84, 85, 86, 87, 88, 89, 90, 91, 92, 93, 33, 94, 95, 35, 96, 97, 98, 46, 53, 99, 47, 100, 48, 245, 246, 247, 248, 249, 250, 251, 252, 253, 254, 255, 256, 257, 258, 259, 260, 261, 262, 263, 264, 265, 266, 267, 268, 269, 270] (by decide +kernel) (by decide +kernel)
set_option maxRecDepth 20000 in
theorem gL_acts_X5_table : GoodIn wsL_acts (wsV RL 55 RX5 yX5_table wsX5_table) := goodIn_app (goodIn_of _ (by decide +kernel)) ggL_acts_X5_table
set_option maxRecDepth 20000 in
theorem ggL_acts_X5_volume : GoodIn wsL_acts wsX5_volume := goodIn_r _ [115, 59, 7, 8, 12, 15, 16, 5, 17, 18, 19, 20, 60, 61, 62, 63, 64, 65, 66, 67, 68, 69, 70, 71, 72, 73, 74, 75, 76, 77, 78, 24, 79, 80, 28, 81, 82, 83, 84, 85, 86, 87, 88, 89, 90, 91, 92, 93, 33, 94, 95, 35, 96, 97, 98, 46, 53, 99, 47, 100, 48, 245, 246, 247, 248, 249, 250, 251, 252, 253, 254, 255, 256, 257, 258, 259, 260, 261, 262, 263, 264, 265, 266, 267, 268, 269, 270] (by decide +kernel) (by decide +kernel)
set_option maxRecDepth 20000 in
theorem gL_acts_X5_volume : GoodIn wsL_acts (wsV RL 58 RX5 yX5_volume wsX5_volume) := goodIn_app (goodIn_of _ (by decide +kernel)) ggL_acts_X5_volume
set_option maxRecDepth 20000 in
theorem ggL_acts_X5_turn : GoodIn wsL_acts wsX5_turn := goodIn_r _ [119, 7, 8, 13, 59, 15, 16, 5, 17, 18, 19, 20, 60, 61, 62, 63, 64, 65, 66, 67, 68, 69, 70, 71, 72, 73, 74, 75, 76, 77, 78, 24, 79, 80, 28, 81, 82, 83, 84, 85, 86, 87, 88, 89, 90, 91, 92, 93, 33, 94, 95, 35, 96, 97, 98, 46, 53, 99, 47, 100, 48, 120, 121, 122, 123, 124, 125, 126, 127, 128, 129, 130, 131, 245, 246, 247, 248, 249, 250, 251, 252, 253, 254, 255, 256, 257, 258, 259, 260, 261, 262, 263, 264, 265, 266, 267, 268, 269, 270] (by decide +kernel) (by decide +kernel)
set_option maxRecDepth 20000 in
theorem gL_acts_X5_turn : GoodIn wsL_acts (wsV RL 61 RX5 yX5_turn wsX5_turn) := goodIn_app (goodIn_of _ (by decide +kernel)) ggL_acts_X5_turn
set_option maxRecDepth 20000 in
theorem ggL_acts_X5_phase : GoodIn wsL_acts wsX5_phase := goodIn_r _ [135, 58, 59, 7, 8, 9, 15, 16, 5, 17, 18, 19, 20, 60, 61, 62, 63, 64, 65, 66, 67, 68, 69, 70, 71, 72, 73, 74, 75, 76, 77, 78, 24, 79, 80, 28, 81, 82, 83, 84, 85, 86, 87, 88, 89, 90, 91, 92, 93, 33, 94, 95, 35, 96, 97, 98, 46, 53, 99, 47, 100, 48, 245, 246, 247, 248, 249, 250, 251, 252, 253, 254, 255, 256, 257, 258, 259, 260, 261, 262, 263, 264, 265, 266, 267, 268, 269, 270] (by decide +kernel) (by decide +kernel)
set_option maxRecDepth 20000 in
theorem gL_acts_X5_phase : GoodIn wsL_acts (wsV RL 65 RX5 yX5_phase wsX5_phase) := goodIn_app (goodIn_of _ (by decide +kernel)) ggL_acts_X5_phase
set_option maxRecDepth 20000 in
theorem ggL_acts_X5_sweep : GoodIn wsL_acts wsX5_sweep := goodIn_r _ [139, 58, 7, 8, 14, 59, 15, 16, 5, 17, 18, 19, 20, 60, 61, 62, 63, 64, 65, 66, 67, 68, 69, 70, 71, 72, 73, 74, 75, 76, 77, 78, 24, 79, 80, 28, 81, 82, 83, 84, 85, 86, 87, 88, 89, 90, 91, 92, 93, 33, 94, 95, 35, 96, 97, 98, 46, 53, 99, 47, 100, 48, 140, 141, 142, 143, 144, 145, 146, 147, 245, 246, 247, 248, 249, 250, 251, 252, 253, 254, 255, 256, 257, 258, 259, 260, 261, 262, 263, 264, 265, 266, 267, 268, 269, 270] (by decide +kernel) (by decide +kernel)
set_option maxRecDepth 20000 in
theorem gL_acts_X5_sweep : GoodIn wsL_acts (wsV RL 68 RX5 yX5_sweep wsX5_sweep) := goodIn_app (goodIn_of _ (by decide +kernel)) ggL_acts_X5_sweep
set_option maxRecDepth 20000 in
theorem ggL_acts_X5_valueOf : GoodIn wsL_acts wsX5_valueOf := goodIn_r _ [151, 7, 152, 109, 110, 5, 111, 18, 19, 20, 153, 154, 155, 245, 246, 247, 248, 249, 250, 251, 252, 253, 254, 255, 256, 257] (by decide +kernel) (by decide +kernel)
set_option maxRecDepth 20000 in
theorem gL_acts_X5_valueOf : GoodIn wsL_acts (wsV RL 15 RX5 yX5_valueOf wsX5_valueOf) := goodIn_app (goodIn_of _ (by decide +kernel)) ggL_acts_X5_valueOf
set_option maxRecDepth 20000 in
theorem ggL_acts_X5_count : GoodIn wsL_acts wsX5_count := goodIn_r _ [159, 7, 160, 161, 162, 163, 69, 70, 71, 164, 165, 166, 167, 59, 168, 120, 121, 122, 24, 123, 85, 124, 169, 170, 171, 172, 173, 22, 23, 25, 26, 27, 28, 29, 174, 175, 176, 177, 178, 179, 180, 181, 39, 40, 33, 41, 35, 37, 245, 246, 247, 248, 249, 250, 251, 252, 253, 254, 255, 256, 257, 271, 272, 273, 274, 275, 276, 277, 268, 269, 270, 258, 259, 260, 261, 262, 263, 264, 265, 266, 267] (by decide +kernel) (by decide +kernel)
set_option maxRecDepth 20000 in
theorem gL_acts_X5_count : GoodIn wsL_acts (wsV RL 28 RX5 yX5_count wsX5_count) := goodIn_app (goodIn_of _ (by decide +kernel)) ggL_acts_X5_count
set_option maxRecDepth 20000 in
theorem ggL_acts_X5_fill : GoodIn wsL_acts wsX5_fill := goodIn_r _ [185, 59, 7, 152, 109, 110, 5, 111, 18, 19, 20, 153, 154, 155, 60, 61, 62, 63, 64, 65, 66, 67, 68, 69, 70, 71, 72, 73, 74, 75, 76, 77, 78, 24, 79, 80, 28, 81, 82, 83, 84, 85, 86, 87, 88, 89, 90, 91, 92, 93, 33, 94, 95, 35, 96, 97, 98, 46, 53, 99, 47, 100, 48, 245, 246, 247, 248, 249, 250, 251, 252, 253, 254, 255, 256, 257, 268, 269, 270, 258, 259, 260, 261, 262, 263, 264, 265, 266, 267] (by decide +kernel) (by decide +kernel)
set_option maxRecDepth 20000 in
theorem gL_acts_X5_fill : GoodIn wsL_acts (wsV RL 72 RX5 yX5_fill wsX5_fill) := goodIn_app (goodIn_of _ (by decide +kernel)) ggL_acts_X5_fill
set_option maxRecDepth 20000 in
theorem ggL_acts_X5_clip : GoodIn wsL_acts wsX5_clip := goodIn_r _ [189, 59, 7, 160, 18, 19, 5, 20, 60, 61, 62, 63, 64, 65, 66, 67, 68, 69, 70, 71, 72, 73, 74, 75, 76, 77, 78, 24, 79, 80, 28, 81, 82, 83, 84, 85, 86, 87, 88, 89, 90, 91, 92, 93, 33, 94, 95, 35, 96, 97, 98, 46, 53, 99, 47, 100, 48, 245, 246, 247, 248, 249, 250, 251, 252, 253, 254, 255, 256, 257, 268, 269, 270, 258, 259, 260, 261, 262, 263, 264, 265, 266, 267] (by decide +kernel) (by decide +kernel)
set_option maxRecDepth 20000 in
theorem gL_acts_X5_clip : GoodIn wsL_acts (wsV RL 75 RX5 yX5_clip wsX5_clip) := goodIn_app (goodIn_of _ (by decide +kernel)) ggL_acts_X5_clip
set_option maxRecDepth 20000 in
theorem ggL_acts_X5_ifMade : GoodIn wsL_acts wsX5_ifMade := goodIn_r _ [193, 194, 7, 195, 179, 70, 180, 163, 69, 71, 162, 18, 19, 5, 20, 196, 77, 78, 24, 79, 80, 28, 81, 82, 83, 84, 85, 86, 87, 88, 89, 90, 91, 92, 93, 33, 94, 95, 35, 96, 97, 98, 46, 53, 99, 47, 100, 48, 197, 198, 199, 200, 201, 124, 202, 170, 171, 172, 173, 22, 23, 25, 26, 27, 29, 203, 204, 205, 206, 207, 208, 209, 210, 211, 212, 73, 74, 75, 213, 214, 215, 216, 37, 217, 218, 219, 220, 221, 222, 223, 224, 144, 145, 146, 147, 225, 245, 246, 247, 248, 249, 250, 251, 252, 253, 254, 255, 256, 257, 258, 259, 260, 261, 262, 263, 264, 265, 266, 267] (by decide +kernel) (by decide +kernel)
set_option maxRecDepth 20000 in
theorem gL_acts_X5_ifMade : GoodIn wsL_acts (wsV RL 32 RX5 yX5_ifMade wsX5_ifMade) := goodIn_app (goodIn_of _ (by decide +kernel)) ggL_acts_X5_ifMade
set_option maxRecDepth 20000 in
theorem ggL_acts_X5_make : GoodIn wsL_acts wsX5_make := goodIn_r _ [229, 7, 59, 18, 19, 5, 20, 230, 231, 232, 24, 233, 234, 86, 60, 61, 62, 63, 64, 65, 66, 67, 68, 69, 70, 71, 72, 73, 74, 75, 76, 77, 78, 79, 80, 28, 81, 82, 83, 84, 85, 87, 88, 89, 90, 91, 92, 93, 33, 94, 95, 35, 96, 97, 98, 46, 53, 99, 47, 100, 48, 235, 236, 237, 238, 239, 240, 198, 199, 200, 201, 124, 202, 170, 171, 172, 173, 22, 23, 25, 26, 27, 29, 203, 204, 205, 206, 207, 208, 209, 210, 211, 212, 213, 214, 215, 216, 37, 217, 218, 219, 220, 221, 222, 223, 224, 144, 145, 146, 147, 225, 245, 246, 247, 248, 249, 250, 251, 252, 253, 254, 255, 256, 257, 268, 269, 270, 258, 259, 260, 261, 262, 263, 264, 265, 266, 267] (by decide +kernel) (by decide +kernel)
set_option maxRecDepth 20000 in
theorem gL_acts_X5_make : GoodIn wsL_acts (wsV RL 45 RX5 yX5_make wsX5_make) := goodIn_app (goodIn_of _ (by decide +kernel)) ggL_acts_X5_make
set_option maxRecDepth 20000 in
theorem ggL_acts_X5_sample : GoodIn wsL_acts wsX5_sample := goodIn_r _ [244, 7, 161, 18, 19, 5, 20, 225, 209, 210, 24, 211, 90, 86, 212, 73, 74, 75, 245, 246, 247, 248, 249, 250, 251, 252, 253, 254, 255, 256, 257] (by decide +kernel) (by decide +kernel)
set_option maxRecDepth 20000 in
theorem gL_acts_X5_sample : GoodIn wsL_acts (wsV RL 39 RX5 yX5_sample wsX5_sample) := goodIn_app (goodIn_of _ (by decide +kernel)) ggL_acts_X5_sample
theorem dL_acts_0 : decode cL_acts 0 = .ok (.iload_n 1, 1) := by decide +kernel
theorem dL_acts_1 : decode cL_acts 1 = .ok (.iconst 4, 1) := by decide +kernel
theorem dL_acts_2 : decode cL_acts 2 = .ok (.ishr, 1) := by decide +kernel
theorem dL_acts_3 : decode cL_acts 3 = .ok (.iconst 4, 1) := by decide +kernel
theorem dL_acts_4 : decode cL_acts 4 = .ok (.irem, 1) := by decide +kernel
theorem dL_acts_5 : decode cL_acts 5 = .ok (.istore_n 2, 1) := by decide +kernel
theorem dL_acts_6 : decode cL_acts 6 = .ok (.iload_n 1, 1) := by decide +kernel
theorem dL_acts_7 : decode cL_acts 7 = .ok (.bipush 6, 2) := by decide +kernel
theorem dL_acts_9 : decode cL_acts 9 = .ok (.ishr, 1) := by decide +kernel
theorem dL_acts_10 : decode cL_acts 10 = .ok (.ldc 18, 2) := by decide +kernel
theorem dL_acts_12 : decode cL_acts 12 = .ok (.irem, 1) := by decide +kernel
theorem dL_acts_13 : decode cL_acts 13 = .ok (.istore_n 3, 1) := by decide +kernel
theorem dL_acts_14 : decode cL_acts 14 = .ok (.iload_n 1, 1) := by decide +kernel
theorem dL_acts_15 : decode cL_acts 15 = .ok (.bipush 10, 2) := by decide +kernel
theorem dL_acts_17 : decode cL_acts 17 = .ok (.irem, 1) := by decide +kernel
theorem dL_acts_18 : decode cL_acts 18 = .ok (.tableswitch 499 0 7 #[46, 90, 135, 182, 254, 289, 289, 389], 46) := by decide +kernel
theorem dL_acts_64 : decode cL_acts 64 = .ok (.aload_n 0, 1) := by decide +kernel
theorem dL_acts_65 : decode cL_acts 65 = .ok (.iload_n 2, 1) := by decide +kernel
theorem dL_acts_66 : decode cL_acts 66 = .ok (.iconst 1, 1) := by decide +kernel
theorem dL_acts_67 : decode cL_acts 67 = .ok (.invokevirtual 9, 3) := by decide +kernel
theorem dL_acts_70 : decode cL_acts 70 = .ok (.istore 4, 2) := by decide +kernel
theorem dL_acts_72 : decode cL_acts 72 = .ok (.aload_n 0, 1) := by decide +kernel
theorem dL_acts_73 : decode cL_acts 73 = .ok (.iload_n 2, 1) := by decide +kernel
theorem dL_acts_74 : decode cL_acts 74 = .ok (.iload_n 3, 1) := by decide +kernel
theorem dL_acts_75 : decode cL_acts 75 = .ok (.invokevirtual 52, 3) := by decide +kernel
theorem dL_acts_78 : decode cL_acts 78 = .ok (.iload 4, 2) := by decide +kernel
theorem dL_acts_80 : decode cL_acts 80 = .ok (.if_icmp .ne 26, 3) := by decide +kernel
theorem dL_acts_83 : decode cL_acts 83 = .ok (.aload_n 0, 1) := by decide +kernel
theorem dL_acts_84 : decode cL_acts 84 = .ok (.iload_n 2, 1) := by decide +kernel
theorem dL_acts_85 : decode cL_acts 85 = .ok (.iconst 1, 1) := by decide +kernel
theorem dL_acts_86 : decode cL_acts 86 = .ok (.invokevirtual 9, 3) := by decide +kernel
theorem dL_acts_89 : decode cL_acts 89 = .ok (.iload_n 3, 1) := by decide +kernel
theorem dL_acts_90 : decode cL_acts 90 = .ok (.if_icmp .ne 16, 3) := by decide +kernel
theorem dL_acts_93 : decode cL_acts 93 = .ok (.aload_n 0, 1) := by decide +kernel
theorem dL_acts_94 : decode cL_acts 94 = .ok (.iload_n 2, 1) := by decide +kernel
theorem dL_acts_95 : decode cL_acts 95 = .ok (.iconst 5, 1) := by decide +kernel
theorem dL_acts_96 : decode cL_acts 96 = .ok (.invokevirtual 9, 3) := by decide +kernel
theorem dL_acts_99 : decode cL_acts 99 = .ok (.ifCond .ne 7, 3) := by decide +kernel
theorem dL_acts_102 : decode cL_acts 102 = .ok (.iconst 1, 1) := by decide +kernel
theorem dL_acts_103 : decode cL_acts 103 = .ok (.goto 4, 3) := by decide +kernel
theorem dL_acts_106 : decode cL_acts 106 = .ok (.iconst 0, 1) := by decide +kernel
theorem dL_acts_107 : decode cL_acts 107 = .ok (.ireturn, 1) := by decide +kernel
theorem dL_acts_108 : decode cL_acts 108 = .ok (.aload_n 0, 1) := by decide +kernel
theorem dL_acts_109 : decode cL_acts 109 = .ok (.iload_n 2, 1) := by decide +kernel
theorem dL_acts_110 : decode cL_acts 110 = .ok (.iconst 2, 1) := by decide +kernel
theorem dL_acts_111 : decode cL_acts 111 = .ok (.invokevirtual 9, 3) := by decide +kernel
theorem dL_acts_114 : decode cL_acts 114 = .ok (.istore 5, 2) := by decide +kernel
theorem dL_acts_116 : decode cL_acts 116 = .ok (.aload_n 0, 1) := by decide +kernel
theorem dL_acts_117 : decode cL_acts 117 = .ok (.iload_n 2, 1) := by decide +kernel
theorem dL_acts_118 : decode cL_acts 118 = .ok (.iload_n 1, 1) := by decide +kernel
theorem dL_acts_119 : decode cL_acts 119 = .ok (.bipush 6, 2) := by decide +kernel
theorem dL_acts_121 : decode cL_acts 121 = .ok (.ishr, 1) := by decide +kernel
theorem dL_acts_122 : decode cL_acts 122 = .ok (.iconst 4, 1) := by decide +kernel
theorem dL_acts_123 : decode cL_acts 123 = .ok (.irem, 1) := by decide +kernel
theorem dL_acts_124 : decode cL_acts 124 = .ok (.invokevirtual 55, 3) := by decide +kernel
theorem dL_acts_127 : decode cL_acts 127 = .ok (.iload 5, 2) := by decide +kernel
theorem dL_acts_129 : decode cL_acts 129 = .ok (.if_icmp .ne 22, 3) := by decide +kernel
theorem dL_acts_132 : decode cL_acts 132 = .ok (.aload_n 0, 1) := by decide +kernel
theorem dL_acts_133 : decode cL_acts 133 = .ok (.iload_n 2, 1) := by decide +kernel
theorem dL_acts_134 : decode cL_acts 134 = .ok (.iconst 2, 1) := by decide +kernel
theorem dL_acts_135 : decode cL_acts 135 = .ok (.invokevirtual 9, 3) := by decide +kernel
theorem dL_acts_138 : decode cL_acts 138 = .ok (.iload_n 1, 1) := by decide +kernel
theorem dL_acts_139 : decode cL_acts 139 = .ok (.bipush 6, 2) := by decide +kernel
theorem dL_acts_141 : decode cL_acts 141 = .ok (.ishr, 1) := by decide +kernel
theorem dL_acts_142 : decode cL_acts 142 = .ok (.iconst 4, 1) := by decide +kernel
theorem dL_acts_143 : decode cL_acts 143 = .ok (.irem, 1) := by decide +kernel
theorem dL_acts_144 : decode cL_acts 144 = .ok (.if_icmp .ne 7, 3) := by decide +kernel
theorem dL_acts_147 : decode cL_acts 147 = .ok (.iconst 1, 1) := by decide +kernel
theorem dL_acts_148 : decode cL_acts 148 = .ok (.goto 4, 3) := by decide +kernel
theorem dL_acts_151 : decode cL_acts 151 = .ok (.iconst 0, 1) := by decide +kernel
theorem dL_acts_152 : decode cL_acts 152 = .ok (.ireturn, 1) := by decide +kernel
theorem dL_acts_153 : decode cL_acts 153 = .ok (.aload_n 0, 1) := by decide +kernel
theorem dL_acts_154 : decode cL_acts 154 = .ok (.iload_n 2, 1) := by decide +kernel
theorem dL_acts_155 : decode cL_acts 155 = .ok (.iconst 3, 1) := by decide +kernel
theorem dL_acts_156 : decode cL_acts 156 = .ok (.invokevirtual 9, 3) := by decide +kernel
theorem dL_acts_159 : decode cL_acts 159 = .ok (.istore 6, 2) := by decide +kernel
theorem dL_acts_161 : decode cL_acts 161 = .ok (.aload_n 0, 1) := by decide +kernel
theorem dL_acts_162 : decode cL_acts 162 = .ok (.iload_n 2, 1) := by decide +kernel
theorem dL_acts_163 : decode cL_acts 163 = .ok (.iload_n 1, 1) := by decide +kernel
theorem dL_acts_164 : decode cL_acts 164 = .ok (.bipush 6, 2) := by decide +kernel
theorem dL_acts_166 : decode cL_acts 166 = .ok (.ishr, 1) := by decide +kernel
theorem dL_acts_167 : decode cL_acts 167 = .ok (.bipush 17, 2) := by decide +kernel
theorem dL_acts_169 : decode cL_acts 169 = .ok (.irem, 1) := by decide +kernel
theorem dL_acts_170 : decode cL_acts 170 = .ok (.invokevirtual 58, 3) := by decide +kernel
theorem dL_acts_173 : decode cL_acts 173 = .ok (.iload 6, 2) := by decide +kernel
theorem dL_acts_175 : decode cL_acts 175 = .ok (.if_icmp .ne 23, 3) := by decide +kernel
theorem dL_acts_178 : decode cL_acts 178 = .ok (.aload_n 0, 1) := by decide +kernel
theorem dL_acts_179 : decode cL_acts 179 = .ok (.iload_n 2, 1) := by decide +kernel
theorem dL_acts_180 : decode cL_acts 180 = .ok (.iconst 3, 1) := by decide +kernel
theorem dL_acts_181 : decode cL_acts 181 = .ok (.invokevirtual 9, 3) := by decide +kernel
theorem dL_acts_184 : decode cL_acts 184 = .ok (.iload_n 1, 1) := by decide +kernel
theorem dL_acts_185 : decode cL_acts 185 = .ok (.bipush 6, 2) := by decide +kernel
theorem dL_acts_187 : decode cL_acts 187 = .ok (.ishr, 1) := by decide +kernel
theorem dL_acts_188 : decode cL_acts 188 = .ok (.bipush 17, 2) := by decide +kernel
theorem dL_acts_190 : decode cL_acts 190 = .ok (.irem, 1) := by decide +kernel
theorem dL_acts_191 : decode cL_acts 191 = .ok (.if_icmp .ne 7, 3) := by decide +kernel
theorem dL_acts_194 : decode cL_acts 194 = .ok (.iconst 1, 1) := by decide +kernel
theorem dL_acts_195 : decode cL_acts 195 = .ok (.goto 4, 3) := by decide +kernel
theorem dL_acts_198 : decode cL_acts 198 = .ok (.iconst 0, 1) := by decide +kernel
theorem dL_acts_199 : decode cL_acts 199 = .ok (.ireturn, 1) := by decide +kernel
theorem dL_acts_200 : decode cL_acts 200 = .ok (.aload_n 0, 1) := by decide +kernel
theorem dL_acts_201 : decode cL_acts 201 = .ok (.iload_n 2, 1) := by decide +kernel
theorem dL_acts_202 : decode cL_acts 202 = .ok (.iconst 4, 1) := by decide +kernel
theorem dL_acts_203 : decode cL_acts 203 = .ok (.invokevirtual 9, 3) := by decide +kernel
theorem dL_acts_206 : decode cL_acts 206 = .ok (.iconst 1, 1) := by decide +kernel
theorem dL_acts_207 : decode cL_acts 207 = .ok (.if_icmp .ne 7, 3) := by decide +kernel
theorem dL_acts_210 : decode cL_acts 210 = .ok (.iconst 1, 1) := by decide +kernel
theorem dL_acts_211 : decode cL_acts 211 = .ok (.goto 4, 3) := by decide +kernel
theorem dL_acts_214 : decode cL_acts 214 = .ok (.iconst 0, 1) := by decide +kernel
theorem dL_acts_215 : decode cL_acts 215 = .ok (.istore 7, 2) := by decide +kernel
theorem dL_acts_217 : decode cL_acts 217 = .ok (.aload_n 0, 1) := by decide +kernel
theorem dL_acts_218 : decode cL_acts 218 = .ok (.iload_n 2, 1) := by decide +kernel
theorem dL_acts_219 : decode cL_acts 219 = .ok (.iload 7, 2) := by decide +kernel
theorem dL_acts_221 : decode cL_acts 221 = .ok (.invokevirtual 61, 3) := by decide +kernel
theorem dL_acts_224 : decode cL_acts 224 = .ok (.bipush (-5), 2) := by decide +kernel
theorem dL_acts_226 : decode cL_acts 226 = .ok (.if_icmp .ne 44, 3) := by decide +kernel
theorem dL_acts_229 : decode cL_acts 229 = .ok (.aload_n 0, 1) := by decide +kernel
theorem dL_acts_230 : decode cL_acts 230 = .ok (.iload_n 2, 1) := by decide +kernel
theorem dL_acts_231 : decode cL_acts 231 = .ok (.iload 7, 2) := by decide +kernel
theorem dL_acts_233 : decode cL_acts 233 = .ok (.ifCond .ne 7, 3) := by decide +kernel
theorem dL_acts_236 : decode cL_acts 236 = .ok (.iconst 1, 1) := by decide +kernel
theorem dL_acts_237 : decode cL_acts 237 = .ok (.goto 4, 3) := by decide +kernel
theorem dL_acts_240 : decode cL_acts 240 = .ok (.iconst 0, 1) := by decide +kernel
theorem dL_acts_241 : decode cL_acts 241 = .ok (.invokevirtual 61, 3) := by decide +kernel
theorem dL_acts_244 : decode cL_acts 244 = .ok (.ifCond .lt 26, 3) := by decide +kernel
theorem dL_acts_247 : decode cL_acts 247 = .ok (.aload_n 0, 1) := by decide +kernel
theorem dL_acts_248 : decode cL_acts 248 = .ok (.iload_n 2, 1) := by decide +kernel
theorem dL_acts_249 : decode cL_acts 249 = .ok (.iconst 4, 1) := by decide +kernel
theorem dL_acts_250 : decode cL_acts 250 = .ok (.invokevirtual 9, 3) := by decide +kernel
theorem dL_acts_253 : decode cL_acts 253 = .ok (.iload 7, 2) := by decide +kernel
theorem dL_acts_255 : decode cL_acts 255 = .ok (.ifCond .eq 7, 3) := by decide +kernel
theorem dL_acts_258 : decode cL_acts 258 = .ok (.iconst 0, 1) := by decide +kernel
theorem dL_acts_259 : decode cL_acts 259 = .ok (.goto 4, 3) := by decide +kernel
theorem dL_acts_262 : decode cL_acts 262 = .ok (.iconst 1, 1) := by decide +kernel
theorem dL_acts_263 : decode cL_acts 263 = .ok (.if_icmp .ne 7, 3) := by decide +kernel
theorem dL_acts_266 : decode cL_acts 266 = .ok (.iconst 1, 1) := by decide +kernel
theorem dL_acts_267 : decode cL_acts 267 = .ok (.goto 4, 3) := by decide +kernel
theorem dL_acts_270 : decode cL_acts 270 = .ok (.iconst 0, 1) := by decide +kernel
theorem dL_acts_271 : decode cL_acts 271 = .ok (.ireturn, 1) := by decide +kernel
theorem dL_acts_272 : decode cL_acts 272 = .ok (.aload_n 0, 1) := by decide +kernel
theorem dL_acts_273 : decode cL_acts 273 = .ok (.iload_n 2, 1) := by decide +kernel
theorem dL_acts_274 : decode cL_acts 274 = .ok (.iconst 0, 1) := by decide +kernel
theorem dL_acts_275 : decode cL_acts 275 = .ok (.invokevirtual 9, 3) := by decide +kernel
theorem dL_acts_278 : decode cL_acts 278 = .ok (.istore 8, 2) := by decide +kernel
theorem dL_acts_280 : decode cL_acts 280 = .ok (.aload_n 0, 1) := by decide +kernel
theorem dL_acts_281 : decode cL_acts 281 = .ok (.iload_n 2, 1) := by decide +kernel
theorem dL_acts_282 : decode cL_acts 282 = .ok (.iload_n 3, 1) := by decide +kernel
theorem dL_acts_283 : decode cL_acts 283 = .ok (.invokevirtual 65, 3) := by decide +kernel
theorem dL_acts_286 : decode cL_acts 286 = .ok (.iload 8, 2) := by decide +kernel
theorem dL_acts_288 : decode cL_acts 288 = .ok (.if_icmp .ne 17, 3) := by decide +kernel
theorem dL_acts_291 : decode cL_acts 291 = .ok (.aload_n 0, 1) := by decide +kernel
theorem dL_acts_292 : decode cL_acts 292 = .ok (.iload_n 2, 1) := by decide +kernel
theorem dL_acts_293 : decode cL_acts 293 = .ok (.iconst 0, 1) := by decide +kernel
theorem dL_acts_294 : decode cL_acts 294 = .ok (.invokevirtual 9, 3) := by decide +kernel
theorem dL_acts_297 : decode cL_acts 297 = .ok (.iload_n 3, 1) := by decide +kernel
theorem dL_acts_298 : decode cL_acts 298 = .ok (.if_icmp .ne 7, 3) := by decide +kernel
theorem dL_acts_301 : decode cL_acts 301 = .ok (.iconst 1, 1) := by decide +kernel
theorem dL_acts_302 : decode cL_acts 302 = .ok (.goto 4, 3) := by decide +kernel
theorem dL_acts_305 : decode cL_acts 305 = .ok (.iconst 0, 1) := by decide +kernel
theorem dL_acts_306 : decode cL_acts 306 = .ok (.ireturn, 1) := by decide +kernel
theorem dL_acts_307 : decode cL_acts 307 = .ok (.aload_n 0, 1) := by decide +kernel
theorem dL_acts_308 : decode cL_acts 308 = .ok (.iload_n 2, 1) := by decide +kernel
theorem dL_acts_309 : decode cL_acts 309 = .ok (.iconst 5, 1) := by decide +kernel
theorem dL_acts_310 : decode cL_acts 310 = .ok (.invokevirtual 9, 3) := by decide +kernel
theorem dL_acts_313 : decode cL_acts 313 = .ok (.istore 9, 2) := by decide +kernel
theorem dL_acts_315 : decode cL_acts 315 = .ok (.aload_n 0, 1) := by decide +kernel
theorem dL_acts_316 : decode cL_acts 316 = .ok (.iload_n 2, 1) := by decide +kernel
theorem dL_acts_317 : decode cL_acts 317 = .ok (.bipush 9, 2) := by decide +kernel
theorem dL_acts_319 : decode cL_acts 319 = .ok (.invokevirtual 9, 3) := by decide +kernel
theorem dL_acts_322 : decode cL_acts 322 = .ok (.istore 10, 2) := by decide +kernel
theorem dL_acts_324 : decode cL_acts 324 = .ok (.iconst 1, 1) := by decide +kernel
theorem dL_acts_325 : decode cL_acts 325 = .ok (.iload_n 1, 1) := by decide +kernel
theorem dL_acts_326 : decode cL_acts 326 = .ok (.bipush 8, 2) := by decide +kernel
theorem dL_acts_328 : decode cL_acts 328 = .ok (.ishr, 1) := by decide +kernel
theorem dL_acts_329 : decode cL_acts 329 = .ok (.bipush 60, 2) := by decide +kernel
theorem dL_acts_331 : decode cL_acts 331 = .ok (.irem, 1) := by decide +kernel
theorem dL_acts_332 : decode cL_acts 332 = .ok (.iadd, 1) := by decide +kernel
theorem dL_acts_333 : decode cL_acts 333 = .ok (.istore 11, 2) := by decide +kernel
theorem dL_acts_335 : decode cL_acts 335 = .ok (.aload_n 0, 1) := by decide +kernel
theorem dL_acts_336 : decode cL_acts 336 = .ok (.iload_n 2, 1) := by decide +kernel
theorem dL_acts_337 : decode cL_acts 337 = .ok (.iload_n 3, 1) := by decide +kernel
theorem dL_acts_338 : decode cL_acts 338 = .ok (.iload 11, 2) := by decide +kernel
theorem dL_acts_340 : decode cL_acts 340 = .ok (.invokevirtual 68, 3) := by decide +kernel
theorem dL_acts_343 : decode cL_acts 343 = .ok (.istore 12, 2) := by decide +kernel
theorem dL_acts_345 : decode cL_acts 345 = .ok (.iload 9, 2) := by decide +kernel
theorem dL_acts_347 : decode cL_acts 347 = .ok (.iconst 4, 1) := by decide +kernel
theorem dL_acts_348 : decode cL_acts 348 = .ok (.if_icmp .ne 18, 3) := by decide +kernel
theorem dL_acts_351 : decode cL_acts 351 = .ok (.iload 12, 2) := by decide +kernel
theorem dL_acts_353 : decode cL_acts 353 = .ok (.bipush (-4), 2) := by decide +kernel
theorem dL_acts_355 : decode cL_acts 355 = .ok (.if_icmp .ne 7, 3) := by decide +kernel
theorem dL_acts_358 : decode cL_acts 358 = .ok (.iconst 1, 1) := by decide +kernel
theorem dL_acts_359 : decode cL_acts 359 = .ok (.goto 47, 3) := by decide +kernel
theorem dL_acts_362 : decode cL_acts 362 = .ok (.iconst 0, 1) := by decide +kernel
theorem dL_acts_363 : decode cL_acts 363 = .ok (.goto 43, 3) := by decide +kernel
theorem dL_acts_366 : decode cL_acts 366 = .ok (.iload 12, 2) := by decide +kernel
theorem dL_acts_368 : decode cL_acts 368 = .ok (.iload 9, 2) := by decide +kernel
theorem dL_acts_370 : decode cL_acts 370 = .ok (.iconst 1, 1) := by decide +kernel
theorem dL_acts_371 : decode cL_acts 371 = .ok (.iadd, 1) := by decide +kernel
theorem dL_acts_372 : decode cL_acts 372 = .ok (.if_icmp .ne 33, 3) := by decide +kernel
theorem dL_acts_375 : decode cL_acts 375 = .ok (.aload_n 0, 1) := by decide +kernel
theorem dL_acts_376 : decode cL_acts 376 = .ok (.iload_n 2, 1) := by decide +kernel
theorem dL_acts_377 : decode cL_acts 377 = .ok (.bipush 9, 2) := by decide +kernel
theorem dL_acts_379 : decode cL_acts 379 = .ok (.invokevirtual 9, 3) := by decide +kernel
theorem dL_acts_382 : decode cL_acts 382 = .ok (.iload 10, 2) := by decide +kernel
theorem dL_acts_384 : decode cL_acts 384 = .ok (.iload 11, 2) := by decide +kernel
theorem dL_acts_386 : decode cL_acts 386 = .ok (.iadd, 1) := by decide +kernel
theorem dL_acts_387 : decode cL_acts 387 = .ok (.if_icmp .ne 18, 3) := by decide +kernel
theorem dL_acts_390 : decode cL_acts 390 = .ok (.aload_n 0, 1) := by decide +kernel
theorem dL_acts_391 : decode cL_acts 391 = .ok (.iload_n 2, 1) := by decide +kernel
theorem dL_acts_392 : decode cL_acts 392 = .ok (.bipush 10, 2) := by decide +kernel
theorem dL_acts_394 : decode cL_acts 394 = .ok (.invokevirtual 9, 3) := by decide +kernel
theorem dL_acts_397 : decode cL_acts 397 = .ok (.iload_n 3, 1) := by decide +kernel
theorem dL_acts_398 : decode cL_acts 398 = .ok (.if_icmp .ne 7, 3) := by decide +kernel
theorem dL_acts_401 : decode cL_acts 401 = .ok (.iconst 1, 1) := by decide +kernel
theorem dL_acts_402 : decode cL_acts 402 = .ok (.goto 4, 3) := by decide +kernel
theorem dL_acts_405 : decode cL_acts 405 = .ok (.iconst 0, 1) := by decide +kernel
theorem dL_acts_406 : decode cL_acts 406 = .ok (.ireturn, 1) := by decide +kernel
theorem dL_acts_407 : decode cL_acts 407 = .ok (.aload_n 0, 1) := by decide +kernel
theorem dL_acts_408 : decode cL_acts 408 = .ok (.iload_n 2, 1) := by decide +kernel
theorem dL_acts_409 : decode cL_acts 409 = .ok (.iload_n 1, 1) := by decide +kernel
theorem dL_acts_410 : decode cL_acts 410 = .ok (.bipush 6, 2) := by decide +kernel
theorem dL_acts_412 : decode cL_acts 412 = .ok (.ishr, 1) := by decide +kernel
theorem dL_acts_413 : decode cL_acts 413 = .ok (.bipush 16, 2) := by decide +kernel
theorem dL_acts_415 : decode cL_acts 415 = .ok (.irem, 1) := by decide +kernel
theorem dL_acts_416 : decode cL_acts 416 = .ok (.invokevirtual 15, 3) := by decide +kernel
theorem dL_acts_419 : decode cL_acts 419 = .ok (.istore 13, 2) := by decide +kernel
theorem dL_acts_421 : decode cL_acts 421 = .ok (.aload_n 0, 1) := by decide +kernel
theorem dL_acts_422 : decode cL_acts 422 = .ok (.iconst 0, 1) := by decide +kernel
theorem dL_acts_423 : decode cL_acts 423 = .ok (.invokevirtual 28, 3) := by decide +kernel
theorem dL_acts_426 : decode cL_acts 426 = .ok (.istore 14, 2) := by decide +kernel
theorem dL_acts_428 : decode cL_acts 428 = .ok (.aload_n 0, 1) := by decide +kernel
theorem dL_acts_429 : decode cL_acts 429 = .ok (.iload_n 2, 1) := by decide +kernel
theorem dL_acts_430 : decode cL_acts 430 = .ok (.iload_n 1, 1) := by decide +kernel
theorem dL_acts_431 : decode cL_acts 431 = .ok (.bipush 6, 2) := by decide +kernel
theorem dL_acts_433 : decode cL_acts 433 = .ok (.ishr, 1) := by decide +kernel
theorem dL_acts_434 : decode cL_acts 434 = .ok (.bipush 16, 2) := by decide +kernel
theorem dL_acts_436 : decode cL_acts 436 = .ok (.irem, 1) := by decide +kernel
theorem dL_acts_437 : decode cL_acts 437 = .ok (.iload_n 1, 1) := by decide +kernel
theorem dL_acts_438 : decode cL_acts 438 = .ok (.bipush 10, 2) := by decide +kernel
theorem dL_acts_440 : decode cL_acts 440 = .ok (.ishr, 1) := by decide +kernel
theorem dL_acts_441 : decode cL_acts 441 = .ok (.bipush 16, 2) := by decide +kernel
theorem dL_acts_443 : decode cL_acts 443 = .ok (.irem, 1) := by decide +kernel
theorem dL_acts_444 : decode cL_acts 444 = .ok (.invokevirtual 72, 3) := by decide +kernel
theorem dL_acts_447 : decode cL_acts 447 = .ok (.iload 13, 2) := by decide +kernel
theorem dL_acts_449 : decode cL_acts 449 = .ok (.if_icmp .ne 66, 3) := by decide +kernel
theorem dL_acts_452 : decode cL_acts 452 = .ok (.aload_n 0, 1) := by decide +kernel
theorem dL_acts_453 : decode cL_acts 453 = .ok (.iload_n 2, 1) := by decide +kernel
theorem dL_acts_454 : decode cL_acts 454 = .ok (.iload_n 1, 1) := by decide +kernel
theorem dL_acts_455 : decode cL_acts 455 = .ok (.bipush 6, 2) := by decide +kernel
theorem dL_acts_457 : decode cL_acts 457 = .ok (.ishr, 1) := by decide +kernel
theorem dL_acts_458 : decode cL_acts 458 = .ok (.bipush 16, 2) := by decide +kernel
theorem dL_acts_460 : decode cL_acts 460 = .ok (.irem, 1) := by decide +kernel
theorem dL_acts_461 : decode cL_acts 461 = .ok (.invokevirtual 15, 3) := by decide +kernel
theorem dL_acts_464 : decode cL_acts 464 = .ok (.iload_n 1, 1) := by decide +kernel
theorem dL_acts_465 : decode cL_acts 465 = .ok (.bipush 10, 2) := by decide +kernel
theorem dL_acts_467 : decode cL_acts 467 = .ok (.ishr, 1) := by decide +kernel
theorem dL_acts_468 : decode cL_acts 468 = .ok (.bipush 16, 2) := by decide +kernel
theorem dL_acts_470 : decode cL_acts 470 = .ok (.irem, 1) := by decide +kernel
theorem dL_acts_471 : decode cL_acts 471 = .ok (.if_icmp .ne 44, 3) := by decide +kernel
theorem dL_acts_474 : decode cL_acts 474 = .ok (.aload_n 0, 1) := by decide +kernel
theorem dL_acts_475 : decode cL_acts 475 = .ok (.iconst 1, 1) := by decide +kernel
theorem dL_acts_476 : decode cL_acts 476 = .ok (.iload_n 1, 1) := by decide +kernel
theorem dL_acts_477 : decode cL_acts 477 = .ok (.bipush 14, 2) := by decide +kernel
theorem dL_acts_479 : decode cL_acts 479 = .ok (.ishr, 1) := by decide +kernel
theorem dL_acts_480 : decode cL_acts 480 = .ok (.sipush 960, 3) := by decide +kernel
theorem dL_acts_483 : decode cL_acts 483 = .ok (.irem, 1) := by decide +kernel
theorem dL_acts_484 : decode cL_acts 484 = .ok (.iadd, 1) := by decide +kernel
theorem dL_acts_485 : decode cL_acts 485 = .ok (.invokevirtual 75, 3) := by decide +kernel
theorem dL_acts_488 : decode cL_acts 488 = .ok (.iload 14, 2) := by decide +kernel
theorem dL_acts_490 : decode cL_acts 490 = .ok (.if_icmp .ne 25, 3) := by decide +kernel
theorem dL_acts_493 : decode cL_acts 493 = .ok (.aload_n 0, 1) := by decide +kernel
theorem dL_acts_494 : decode cL_acts 494 = .ok (.iconst 0, 1) := by decide +kernel
theorem dL_acts_495 : decode cL_acts 495 = .ok (.invokevirtual 28, 3) := by decide +kernel
theorem dL_acts_498 : decode cL_acts 498 = .ok (.iconst 1, 1) := by decide +kernel
theorem dL_acts_499 : decode cL_acts 499 = .ok (.iload_n 1, 1) := by decide +kernel
theorem dL_acts_500 : decode cL_acts 500 = .ok (.bipush 14, 2) := by decide +kernel
theorem dL_acts_502 : decode cL_acts 502 = .ok (.ishr, 1) := by decide +kernel
theorem dL_acts_503 : decode cL_acts 503 = .ok (.sipush 960, 3) := by decide +kernel
theorem dL_acts_506 : decode cL_acts 506 = .ok (.irem, 1) := by decide +kernel
theorem dL_acts_507 : decode cL_acts 507 = .ok (.iadd, 1) := by decide +kernel
theorem dL_acts_508 : decode cL_acts 508 = .ok (.if_icmp .ne 7, 3) := by decide +kernel
theorem dL_acts_511 : decode cL_acts 511 = .ok (.iconst 1, 1) := by decide +kernel
theorem dL_acts_512 : decode cL_acts 512 = .ok (.goto 4, 3) := by decide +kernel
theorem dL_acts_515 : decode cL_acts 515 = .ok (.iconst 0, 1) := by decide +kernel
theorem dL_acts_516 : decode cL_acts 516 = .ok (.ireturn, 1) := by decide +kernel
theorem dL_acts_517 : decode cL_acts 517 = .ok (.aload_n 0, 1) := by decide +kernel
theorem dL_acts_518 : decode cL_acts 518 = .ok (.iconst 1, 1) := by decide +kernel
theorem dL_acts_519 : decode cL_acts 519 = .ok (.invokevirtual 28, 3) := by decide +kernel
theorem dL_acts_522 : decode cL_acts 522 = .ok (.istore 15, 2) := by decide +kernel
theorem dL_acts_524 : decode cL_acts 524 = .ok (.iconst 1, 1) := by decide +kernel
theorem dL_acts_525 : decode cL_acts 525 = .ok (.iload_n 1, 1) := by decide +kernel
theorem dL_acts_526 : decode cL_acts 526 = .ok (.iconst 4, 1) := by decide +kernel
theorem dL_acts_527 : decode cL_acts 527 = .ok (.ishr, 1) := by decide +kernel
theorem dL_acts_528 : decode cL_acts 528 = .ok (.sipush 200, 3) := by decide +kernel
theorem dL_acts_531 : decode cL_acts 531 = .ok (.irem, 1) := by decide +kernel
theorem dL_acts_532 : decode cL_acts 532 = .ok (.iadd, 1) := by decide +kernel
theorem dL_acts_533 : decode cL_acts 533 = .ok (.istore 16, 2) := by decide +kernel
theorem dL_acts_535 : decode cL_acts 535 = .ok (.aload_n 0, 1) := by decide +kernel
theorem dL_acts_536 : decode cL_acts 536 = .ok (.iload 16, 2) := by decide +kernel
theorem dL_acts_538 : decode cL_acts 538 = .ok (.iconst 3, 1) := by decide +kernel
theorem dL_acts_539 : decode cL_acts 539 = .ok (.invokevirtual 32, 3) := by decide +kernel
theorem dL_acts_542 : decode cL_acts 542 = .ok (.istore 17, 2) := by decide +kernel
theorem dL_acts_544 : decode cL_acts 544 = .ok (.aload_n 0, 1) := by decide +kernel
theorem dL_acts_545 : decode cL_acts 545 = .ok (.iload 16, 2) := by decide +kernel
theorem dL_acts_547 : decode cL_acts 547 = .ok (.invokevirtual 45, 3) := by decide +kernel
theorem dL_acts_550 : decode cL_acts 550 = .ok (.iload 17, 2) := by decide +kernel
theorem dL_acts_552 : decode cL_acts 552 = .ok (.if_icmp .ne 30, 3) := by decide +kernel
theorem dL_acts_555 : decode cL_acts 555 = .ok (.aload_n 0, 1) := by decide +kernel
theorem dL_acts_556 : decode cL_acts 556 = .ok (.iconst 1, 1) := by decide +kernel
theorem dL_acts_557 : decode cL_acts 557 = .ok (.invokevirtual 28, 3) := by decide +kernel
theorem dL_acts_560 : decode cL_acts 560 = .ok (.iload 15, 2) := by decide +kernel
theorem dL_acts_562 : decode cL_acts 562 = .ok (.iload 16, 2) := by decide +kernel
theorem dL_acts_564 : decode cL_acts 564 = .ok (.iadd, 1) := by decide +kernel
theorem dL_acts_565 : decode cL_acts 565 = .ok (.if_icmp .ne 17, 3) := by decide +kernel
theorem dL_acts_568 : decode cL_acts 568 = .ok (.aload_n 0, 1) := by decide +kernel
theorem dL_acts_569 : decode cL_acts 569 = .ok (.iconst 0, 1) := by decide +kernel
theorem dL_acts_570 : decode cL_acts 570 = .ok (.invokevirtual 39, 3) := by decide +kernel
theorem dL_acts_573 : decode cL_acts 573 = .ok (.iload 17, 2) := by decide +kernel
theorem dL_acts_575 : decode cL_acts 575 = .ok (.if_icmp .ne 7, 3) := by decide +kernel
theorem dL_acts_578 : decode cL_acts 578 = .ok (.iconst 1, 1) := by decide +kernel
theorem dL_acts_579 : decode cL_acts 579 = .ok (.goto 4, 3) := by decide +kernel
theorem dL_acts_582 : decode cL_acts 582 = .ok (.iconst 0, 1) := by decide +kernel
theorem dL_acts_583 : decode cL_acts 583 = .ok (.ireturn, 1) := by decide +kernel
set_option maxRecDepth 20000 in
theorem ggL_isRound_X5_untilRound : GoodIn wsL_isRound wsX5_untilRound := goodIn_r _ [6, 7, 8, 9, 10, 11, 5, 12, 13, 14, 15, 16, 17, 18, 19, 20, 21, 22, 23, 24, 25, 26, 27, 28, 29, 30, 31, 32, 33, 34, 35, 36, 37, 38, 39, 40, 41, 42, 43, 44, 45, 46, 47, 48, 49, 50, 51, 52, 53, 54, 55, 56, 57, 58, 59, 60, 61, 62, 63, 64, 65, 66, 67, 68, 69, 70, 71, 176, 177, 178, 179, 180, 181, 182, 183, 184, 185, 186, 187, 188, 189, 190, 191, 192, 193, 194, 195, 196, 197, 198] (by decide +kernel) (by decide +kernel)
set_option maxRecDepth 20000 in
theorem gL_isRound_X5_untilRound : GoodIn wsL_isRound (wsV RL 78 RX5 yX5_untilRound wsX5_untilRound) := goodIn_app (goodIn_of _ (by decide +kernel)) ggL_isRound_X5_untilRound
set_option maxRecDepth 20000 in
theorem ggL_isRound_X5_wheel : GoodIn wsL_isRound wsX5_wheel := goodIn_r _ [75, 8, 9, 76, 77, 78, 79, 80, 81, 10, 11, 5, 12, 13, 14, 15, 82, 83, 84, 19, 85, 86, 87, 22, 88, 89, 90, 91, 36, 92, 39, 93, 59, 94, 95, 96, 97, 98, 99, 100, 101, 43, 46, 48, 102, 103, 104, 105, 44, 176, 177, 178, 179, 180, 181, 182, 183, 184, 185, 186, 187, 188, 189, 190, 191, 192, 193, 194, 195, 196, 197, 198] (by decide +kernel) (by decide +kernel)
set_option maxRecDepth 20000 in
theorem gL_isRound_X5_wheel : GoodIn wsL_isRound (wsV RL 9 RX5 yX5_wheel wsX5_wheel) := goodIn_app (goodIn_of _ (by decide +kernel)) ggL_isRound_X5_wheel
set_option maxRecDepth 20000 in
theorem ggL_isRound_X5_turn : GoodIn wsL_isRound wsX5_turn := goodIn_r _ [109, 8, 9, 80, 110, 10, 11, 5, 12, 13, 14, 15, 111, 112, 113, 114, 115, 116, 117, 118, 119, 120, 121, 122, 123, 124, 125, 126, 127, 17, 18, 19, 20, 21, 22, 23, 24, 25, 26, 27, 28, 29, 30, 31, 32, 33, 34, 35, 36, 37, 38, 39, 40, 41, 42, 43, 44, 45, 46, 47, 48, 128, 129, 130, 131, 132, 133, 134, 135, 136, 137, 138, 139, 176, 177, 178, 179, 180, 181, 182, 183, 184, 185, 186, 187, 188, 189, 190, 191, 192, 193, 194, 195, 196, 197, 198, 199, 200, 201] (by decide +kernel) (by decide +kernel)
set_option maxRecDepth 20000 in
theorem gL_isRound_X5_turn : GoodIn wsL_isRound (wsV RL 61 RX5 yX5_turn wsX5_turn) := goodIn_app (goodIn_of _ (by decide +kernel)) ggL_isRound_X5_turn
set_option maxRecDepth 20000 in
theorem ggL_isRound_X5_make : GoodIn wsL_isRound wsX5_make := goodIn_r _ [143, 8, 110, 13, 14, 5, 15, 144, 145, 146, 19, 147, 148, 28, 111, 112, 113, 114, 115, 116, 117, 118, 119, 120, 121, 122, 123, 124, 125, 126, 127, 17, 18, 20, 21, 22, 23, 24, 25, 26, 27, 29, 30, 31, 32, 33, 34, 35, 36, 37, 38, 39, 40, 41, 42, 43, 44, 45, 46, 47, 48, 149, 150, 151, 152, 153, 154, 155, 156, 157, 158, 132, 159, 160, 161, 162, 163, 83, 84, 85, 86, 87, 88, 164, 165, 166, 167, 168, 169, 170, 171, 172, 173, 174, 56, 57, 58, 59, 60, 61, 62, 63, 64, 65, 66, 67, 68, 69, 70, 71, 175, 176, 177, 178, 179, 180, 181, 182, 183, 184, 185, 186, 187, 188, 199, 200, 201, 189, 190, 191, 192, 193, 194, 195, 196, 197, 198] (by decide +kernel) (by decide +kernel)
set_option maxRecDepth 20000 in
theorem gL_isRound_X5_make : GoodIn wsL_isRound (wsV RL 45 RX5 yX5_make wsX5_make) := goodIn_app (goodIn_of _ (by decide +kernel)) ggL_isRound_X5_make
theorem dL_isRound_0 : decode cL_isRound 0 = .ok (.aload_n 0, 1) := by decide +kernel
theorem dL_isRound_1 : decode cL_isRound 1 = .ok (.iload_n 1, 1) := by decide +kernel
theorem dL_isRound_2 : decode cL_isRound 2 = .ok (.invokevirtual 78, 3) := by decide +kernel
theorem dL_isRound_5 : decode cL_isRound 5 = .ok (.istore_n 2, 1) := by decide +kernel
theorem dL_isRound_6 : decode cL_isRound 6 = .ok (.aload_n 0, 1) := by decide +kernel
theorem dL_isRound_7 : decode cL_isRound 7 = .ok (.iload_n 1, 1) := by decide +kernel
theorem dL_isRound_8 : decode cL_isRound 8 = .ok (.iconst 4, 1) := by decide +kernel
theorem dL_isRound_9 : decode cL_isRound 9 = .ok (.invokevirtual 9, 3) := by decide +kernel
theorem dL_isRound_12 : decode cL_isRound 12 = .ok (.iconst 1, 1) := by decide +kernel
theorem dL_isRound_13 : decode cL_isRound 13 = .ok (.if_icmp .eq 12, 3) := by decide +kernel
theorem dL_isRound_16 : decode cL_isRound 16 = .ok (.aload_n 0, 1) := by decide +kernel
theorem dL_isRound_17 : decode cL_isRound 17 = .ok (.iload_n 1, 1) := by decide +kernel
theorem dL_isRound_18 : decode cL_isRound 18 = .ok (.iconst 1, 1) := by decide +kernel
theorem dL_isRound_19 : decode cL_isRound 19 = .ok (.invokevirtual 61, 3) := by decide +kernel
theorem dL_isRound_22 : decode cL_isRound 22 = .ok (.ifCond .le 7, 3) := by decide +kernel
theorem dL_isRound_25 : decode cL_isRound 25 = .ok (.iconst 1, 1) := by decide +kernel
theorem dL_isRound_26 : decode cL_isRound 26 = .ok (.goto 4, 3) := by decide +kernel
theorem dL_isRound_29 : decode cL_isRound 29 = .ok (.iconst 0, 1) := by decide +kernel
theorem dL_isRound_30 : decode cL_isRound 30 = .ok (.istore_n 3, 1) := by decide +kernel
theorem dL_isRound_31 : decode cL_isRound 31 = .ok (.iload_n 3, 1) := by decide +kernel
theorem dL_isRound_32 : decode cL_isRound 32 = .ok (.ifCond .eq 22, 3) := by decide +kernel
theorem dL_isRound_35 : decode cL_isRound 35 = .ok (.iload_n 2, 1) := by decide +kernel
theorem dL_isRound_36 : decode cL_isRound 36 = .ok (.ifCond .lt 14, 3) := by decide +kernel
theorem dL_isRound_39 : decode cL_isRound 39 = .ok (.iload_n 2, 1) := by decide +kernel
theorem dL_isRound_40 : decode cL_isRound 40 = .ok (.iconst 1, 1) := by decide +kernel
theorem dL_isRound_41 : decode cL_isRound 41 = .ok (.if_icmp .lt 13, 3) := by decide +kernel
theorem dL_isRound_44 : decode cL_isRound 44 = .ok (.iload_n 2, 1) := by decide +kernel
theorem dL_isRound_45 : decode cL_isRound 45 = .ok (.ldc 81, 2) := by decide +kernel
theorem dL_isRound_47 : decode cL_isRound 47 = .ok (.if_icmp .gt 7, 3) := by decide +kernel
theorem dL_isRound_50 : decode cL_isRound 50 = .ok (.iconst 1, 1) := by decide +kernel
theorem dL_isRound_51 : decode cL_isRound 51 = .ok (.goto 4, 3) := by decide +kernel
theorem dL_isRound_54 : decode cL_isRound 54 = .ok (.iconst 0, 1) := by decide +kernel
theorem dL_isRound_55 : decode cL_isRound 55 = .ok (.istore 4, 2) := by decide +kernel
theorem dL_isRound_57 : decode cL_isRound 57 = .ok (.aload_n 0, 1) := by decide +kernel
theorem dL_isRound_58 : decode cL_isRound 58 = .ok (.iload_n 1, 1) := by decide +kernel
theorem dL_isRound_59 : decode cL_isRound 59 = .ok (.iconst 0, 1) := by decide +kernel
theorem dL_isRound_60 : decode cL_isRound 60 = .ok (.invokevirtual 9, 3) := by decide +kernel
theorem dL_isRound_63 : decode cL_isRound 63 = .ok (.istore 5, 2) := by decide +kernel
theorem dL_isRound_65 : decode cL_isRound 65 = .ok (.iconst 1, 1) := by decide +kernel
theorem dL_isRound_66 : decode cL_isRound 66 = .ok (.istore 6, 2) := by decide +kernel
theorem dL_isRound_68 : decode cL_isRound 68 = .ok (.iload 6, 2) := by decide +kernel
theorem dL_isRound_70 : decode cL_isRound 70 = .ok (.bipush 40, 2) := by decide +kernel
theorem dL_isRound_72 : decode cL_isRound 72 = .ok (.if_icmp .gt 77, 3) := by decide +kernel
theorem dL_isRound_75 : decode cL_isRound 75 = .ok (.iload 4, 2) := by decide +kernel
theorem dL_isRound_77 : decode cL_isRound 77 = .ok (.ifCond .eq 72, 3) := by decide +kernel
theorem dL_isRound_80 : decode cL_isRound 80 = .ok (.iload_n 2, 1) := by decide +kernel
theorem dL_isRound_81 : decode cL_isRound 81 = .ok (.ifCond .lt 9, 3) := by decide +kernel
theorem dL_isRound_84 : decode cL_isRound 84 = .ok (.iload 6, 2) := by decide +kernel
theorem dL_isRound_86 : decode cL_isRound 86 = .ok (.iload_n 2, 1) := by decide +kernel
theorem dL_isRound_87 : decode cL_isRound 87 = .ok (.if_icmp .gt 62, 3) := by decide +kernel
theorem dL_isRound_90 : decode cL_isRound 90 = .ok (.aload_n 0, 1) := by decide +kernel
theorem dL_isRound_91 : decode cL_isRound 91 = .ok (.iconst 1, 1) := by decide +kernel
theorem dL_isRound_92 : decode cL_isRound 92 = .ok (.invokevirtual 45, 3) := by decide +kernel
theorem dL_isRound_95 : decode cL_isRound 95 = .ok (.ifCond .lt 37, 3) := by decide +kernel
theorem dL_isRound_98 : decode cL_isRound 98 = .ok (.aload_n 0, 1) := by decide +kernel
theorem dL_isRound_99 : decode cL_isRound 99 = .ok (.iload_n 1, 1) := by decide +kernel
theorem dL_isRound_100 : decode cL_isRound 100 = .ok (.iconst 0, 1) := by decide +kernel
theorem dL_isRound_101 : decode cL_isRound 101 = .ok (.invokevirtual 9, 3) := by decide +kernel
theorem dL_isRound_104 : decode cL_isRound 104 = .ok (.iload 5, 2) := by decide +kernel
theorem dL_isRound_106 : decode cL_isRound 106 = .ok (.if_icmp .ge 7, 3) := by decide +kernel
theorem dL_isRound_109 : decode cL_isRound 109 = .ok (.iconst 1, 1) := by decide +kernel
theorem dL_isRound_110 : decode cL_isRound 110 = .ok (.goto 4, 3) := by decide +kernel
theorem dL_isRound_113 : decode cL_isRound 113 = .ok (.iconst 0, 1) := by decide +kernel
theorem dL_isRound_114 : decode cL_isRound 114 = .ok (.iload 6, 2) := by decide +kernel
theorem dL_isRound_116 : decode cL_isRound 116 = .ok (.iload_n 2, 1) := by decide +kernel
theorem dL_isRound_117 : decode cL_isRound 117 = .ok (.if_icmp .ne 7, 3) := by decide +kernel
theorem dL_isRound_120 : decode cL_isRound 120 = .ok (.iconst 1, 1) := by decide +kernel
theorem dL_isRound_121 : decode cL_isRound 121 = .ok (.goto 4, 3) := by decide +kernel
theorem dL_isRound_124 : decode cL_isRound 124 = .ok (.iconst 0, 1) := by decide +kernel
theorem dL_isRound_125 : decode cL_isRound 125 = .ok (.if_icmp .ne 7, 3) := by decide +kernel
theorem dL_isRound_128 : decode cL_isRound 128 = .ok (.iconst 1, 1) := by decide +kernel
theorem dL_isRound_129 : decode cL_isRound 129 = .ok (.goto 4, 3) := by decide +kernel
theorem dL_isRound_132 : decode cL_isRound 132 = .ok (.iconst 0, 1) := by decide +kernel
theorem dL_isRound_133 : decode cL_isRound 133 = .ok (.istore 4, 2) := by decide +kernel
theorem dL_isRound_135 : decode cL_isRound 135 = .ok (.aload_n 0, 1) := by decide +kernel
theorem dL_isRound_136 : decode cL_isRound 136 = .ok (.iload_n 1, 1) := by decide +kernel
theorem dL_isRound_137 : decode cL_isRound 137 = .ok (.iconst 0, 1) := by decide +kernel
theorem dL_isRound_138 : decode cL_isRound 138 = .ok (.invokevirtual 9, 3) := by decide +kernel
theorem dL_isRound_141 : decode cL_isRound 141 = .ok (.istore 5, 2) := by decide +kernel
theorem dL_isRound_143 : decode cL_isRound 143 = .ok (.iinc 6 1, 3) := by decide +kernel
theorem dL_isRound_146 : decode cL_isRound 146 = .ok (.goto (-78), 3) := by decide +kernel
theorem dL_isRound_149 : decode cL_isRound 149 = .ok (.iload 4, 2) := by decide +kernel
theorem dL_isRound_151 : decode cL_isRound 151 = .ok (.ireturn, 1) := by decide +kernel
