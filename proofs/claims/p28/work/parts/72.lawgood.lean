set_option maxRecDepth 20000 in
theorem ggL_law_X5_init_c : GoodIn wsL_law [.code yX5_init cX5_init 1 none] := goodIn_r _ [5] (by decide +kernel) (by decide +kernel)
set_option maxRecDepth 20000 in
theorem ggL_law_X5_init_p1 : GoodIn wsL_law (wsX5_init_r1 : List Cond) := goodIn_r _ [6, 7, 8, 9, 10, 11, 12, 13, 14, 15, 16, 17, 18, 19, 20, 21, 22, 23, 24, 25, 26, 27, 28, 29] (by decide +kernel) (by decide +kernel)
set_option maxRecDepth 20000 in
theorem ggL_law_X5_init_p2 : GoodIn wsL_law (wsX5_init_r2 : List Cond) := goodIn_r _ [30, 31, 32, 33, 34, 35, 36, 37, 38, 39, 40, 41, 42, 43, 44, 45, 46, 47, 48, 49, 50, 51, 52, 53] (by decide +kernel) (by decide +kernel)
set_option maxRecDepth 20000 in
theorem ggL_law_X5_init_p3 : GoodIn wsL_law (wsX5_init_r3 : List Cond) := goodIn_r _ [54, 55, 56, 57, 58, 59, 60, 61, 62, 63, 64, 65, 66] (by decide +kernel) (by decide +kernel)
set_option maxRecDepth 20000 in
theorem ggL_law_X5_init_p4 : GoodIn wsL_law (wsX30 : List Cond) := goodIn_r _ [363, 364, 365, 366, 367, 368, 369, 370] (by decide +kernel) (by decide +kernel)
set_option maxRecDepth 20000 in
theorem ggL_law_X5_init_p5 : GoodIn wsL_law (wsX50 : List Cond) := goodIn_r _ [358, 359, 360, 361, 362] (by decide +kernel) (by decide +kernel)
set_option maxRecDepth 20000 in
theorem ggL_law_X5_init_p6 : GoodIn wsL_law (wsX00 : List Cond) := goodIn_r _ [371, 372, 373] (by decide +kernel) (by decide +kernel)
set_option maxRecDepth 20000 in
theorem ggL_law_X5_init_p7 : GoodIn wsL_law (wsX20 : List Cond) := goodIn_r _ [374, 375] (by decide +kernel) (by decide +kernel)
set_option maxRecDepth 20000 in
theorem ggL_law_X5_init_p8 : GoodIn wsL_law (wsX10 : List Cond) := goodIn_r _ [376, 377, 378, 379, 380, 381, 382] (by decide +kernel) (by decide +kernel)
set_option maxRecDepth 20000 in
theorem ggL_law_X5_init_p9 : GoodIn wsL_law (wsX40 : List Cond) := goodIn_r _ [383, 384, 385, 386, 387, 388, 389, 390, 391, 392] (by decide +kernel) (by decide +kernel)
theorem ggL_law_X5_init : GoodIn wsL_law wsX5_init := by
  show GoodIn wsL_law ([.code yX5_init cX5_init 1 none] ++ (((((((wsX5_init_r1 ++ (wsX5_init_r2 ++ wsX5_init_r3)) ++ wsX30) ++ wsX50) ++ wsX00) ++ wsX20) ++ wsX10) ++ wsX40))
  exact goodIn_app ggL_law_X5_init_c (goodIn_app (goodIn_app (goodIn_app (goodIn_app (goodIn_app (goodIn_app (goodIn_app ggL_law_X5_init_p1 (goodIn_app ggL_law_X5_init_p2 ggL_law_X5_init_p3)) ggL_law_X5_init_p4) ggL_law_X5_init_p5) ggL_law_X5_init_p6) ggL_law_X5_init_p7) ggL_law_X5_init_p8) ggL_law_X5_init_p9)
set_option maxRecDepth 20000 in
theorem gL_law_X5_init : GoodIn wsL_law (wsX5_init) := ggL_law_X5_init
set_option maxRecDepth 20000 in
theorem ggL_law_X5_undo_c : GoodIn wsL_law [.code yX5_undo cX5_undo 1 (some .int)] := goodIn_r _ [70] (by decide +kernel) (by decide +kernel)
set_option maxRecDepth 20000 in
theorem ggL_law_X5_undo_p1 : GoodIn wsL_law (wsX5_undo_r1 : List Cond) := goodIn_r _ [17, 71, 12, 72, 73, 74, 16, 75, 76, 77, 78, 79, 80, 81, 51, 82, 83, 84, 85, 86, 87, 88, 11, 89] (by decide +kernel) (by decide +kernel)
set_option maxRecDepth 20000 in
theorem ggL_law_X5_undo_p2 : GoodIn wsL_law (wsX5_undo_r2 : List Cond) := goodIn_r _ [30, 32, 90, 91, 92, 93, 34, 94, 95, 96, 97, 35, 98, 99, 100, 37, 101, 102, 42, 103, 43, 104, 105, 44] (by decide +kernel) (by decide +kernel)
set_option maxRecDepth 20000 in
theorem ggL_law_X5_undo_p3 : GoodIn wsL_law (wsX5_undo_r3 : List Cond) := goodIn_r _ [106, 45, 107, 108] (by decide +kernel) (by decide +kernel)
set_option maxRecDepth 20000 in
theorem ggL_law_X5_undo_p4 : GoodIn wsL_law (wsX50 : List Cond) := goodIn_r _ [358, 359, 360, 361, 362] (by decide +kernel) (by decide +kernel)
set_option maxRecDepth 20000 in
theorem ggL_law_X5_undo_p5 : GoodIn wsL_law (wsX00 : List Cond) := goodIn_r _ [371, 372, 373] (by decide +kernel) (by decide +kernel)
set_option maxRecDepth 20000 in
theorem ggL_law_X5_undo_p6 : GoodIn wsL_law (wsX30 : List Cond) := goodIn_r _ [363, 364, 365, 366, 367, 368, 369, 370] (by decide +kernel) (by decide +kernel)
set_option maxRecDepth 20000 in
theorem ggL_law_X5_undo_p7 : GoodIn wsL_law (wsX40 : List Cond) := goodIn_r _ [383, 384, 385, 386, 387, 388, 389, 390, 391, 392] (by decide +kernel) (by decide +kernel)
theorem ggL_law_X5_undo : GoodIn wsL_law wsX5_undo := by
  show GoodIn wsL_law ([.code yX5_undo cX5_undo 1 (some .int)] ++ (((((wsX5_undo_r1 ++ (wsX5_undo_r2 ++ wsX5_undo_r3)) ++ wsX50) ++ wsX00) ++ wsX30) ++ wsX40))
  exact goodIn_app ggL_law_X5_undo_c (goodIn_app (goodIn_app (goodIn_app (goodIn_app (goodIn_app ggL_law_X5_undo_p1 (goodIn_app ggL_law_X5_undo_p2 ggL_law_X5_undo_p3)) ggL_law_X5_undo_p4) ggL_law_X5_undo_p5) ggL_law_X5_undo_p6) ggL_law_X5_undo_p7)
set_option maxRecDepth 20000 in
theorem gL_law_X5_undo : GoodIn wsL_law (wsV RL 83 RX5 yX5_undo wsX5_undo) := goodIn_app (goodIn_of _ (by decide +kernel)) ggL_law_X5_undo
set_option maxRecDepth 20000 in
theorem ggL_law_X5_restore_c : GoodIn wsL_law [.code yX5_restore cX5_restore 2 (some .int)] := goodIn_r _ [112] (by decide +kernel) (by decide +kernel)
set_option maxRecDepth 20000 in
theorem ggL_law_X5_restore_p1 : GoodIn wsL_law (wsX5_restore_r1 : List Cond) := goodIn_r _ [21, 113, 17, 12, 114, 115, 116, 117, 2, 118, 119, 120, 121, 16, 122, 51, 76, 77, 123, 124, 80, 125, 82, 83] (by decide +kernel) (by decide +kernel)
set_option maxRecDepth 20000 in
theorem ggL_law_X5_restore_p2 : GoodIn wsL_law (wsX5_restore_r2 : List Cond) := goodIn_r _ [84, 85, 86, 87, 88, 11, 89, 30, 32, 90, 91, 92, 93, 34, 94, 95, 96, 97, 35, 98, 99, 100, 37, 101] (by decide +kernel) (by decide +kernel)
set_option maxRecDepth 20000 in
theorem ggL_law_X5_restore_p3 : GoodIn wsL_law (wsX5_restore_r3 : List Cond) := goodIn_r _ [102, 42, 103, 43, 104, 105, 44, 106, 45, 107, 108, 126] (by decide +kernel) (by decide +kernel)
set_option maxRecDepth 20000 in
theorem ggL_law_X5_restore_p4 : GoodIn wsL_law (wsX50 : List Cond) := goodIn_r _ [358, 359, 360, 361, 362] (by decide +kernel) (by decide +kernel)
set_option maxRecDepth 20000 in
theorem ggL_law_X5_restore_p5 : GoodIn wsL_law (wsX20 : List Cond) := goodIn_r _ [374, 375] (by decide +kernel) (by decide +kernel)
set_option maxRecDepth 20000 in
theorem ggL_law_X5_restore_p6 : GoodIn wsL_law (wsX30 : List Cond) := goodIn_r _ [363, 364, 365, 366, 367, 368, 369, 370] (by decide +kernel) (by decide +kernel)
set_option maxRecDepth 20000 in
theorem ggL_law_X5_restore_p7 : GoodIn wsL_law (wsX00 : List Cond) := goodIn_r _ [371, 372, 373] (by decide +kernel) (by decide +kernel)
set_option maxRecDepth 20000 in
theorem ggL_law_X5_restore_p8 : GoodIn wsL_law (wsX40 : List Cond) := goodIn_r _ [383, 384, 385, 386, 387, 388, 389, 390, 391, 392] (by decide +kernel) (by decide +kernel)
theorem ggL_law_X5_restore : GoodIn wsL_law wsX5_restore := by
  show GoodIn wsL_law ([.code yX5_restore cX5_restore 2 (some .int)] ++ ((((((wsX5_restore_r1 ++ (wsX5_restore_r2 ++ wsX5_restore_r3)) ++ wsX50) ++ wsX20) ++ wsX30) ++ wsX00) ++ wsX40))
  exact goodIn_app ggL_law_X5_restore_c (goodIn_app (goodIn_app (goodIn_app (goodIn_app (goodIn_app (goodIn_app ggL_law_X5_restore_p1 (goodIn_app ggL_law_X5_restore_p2 ggL_law_X5_restore_p3)) ggL_law_X5_restore_p4) ggL_law_X5_restore_p5) ggL_law_X5_restore_p6) ggL_law_X5_restore_p7) ggL_law_X5_restore_p8)
set_option maxRecDepth 20000 in
theorem gL_law_X5_restore : GoodIn wsL_law (wsV RL 49 RX5 yX5_restore wsX5_restore) := goodIn_app (goodIn_of _ (by decide +kernel)) ggL_law_X5_restore
set_option maxRecDepth 20000 in
theorem ggL_law_X5_sample : GoodIn wsL_law wsX5_sample := goodIn_r _ [130, 12, 115, 116, 117, 2, 118, 131, 132, 133, 11, 134, 35, 94, 135, 83, 84, 85, 358, 359, 360, 361, 362, 363, 364, 365, 366, 367, 368, 369, 370] (by decide +kernel) (by decide +kernel)
set_option maxRecDepth 20000 in
theorem gL_law_X5_sample : GoodIn wsL_law (wsV RL 39 RX5 yX5_sample wsX5_sample) := goodIn_app (goodIn_of _ (by decide +kernel)) ggL_law_X5_sample
set_option maxRecDepth 20000 in
theorem ggL_law_X5_count_c : GoodIn wsL_law [.code yX5_count cX5_count 2 (some .int)] := goodIn_r _ [139] (by decide +kernel) (by decide +kernel)
set_option maxRecDepth 20000 in
theorem ggL_law_X5_count_p1 : GoodIn wsL_law (wsX5_count_r1 : List Cond) := goodIn_r _ [12, 140, 115, 141, 142, 124, 80, 125, 143, 144, 25, 145, 17, 71, 146, 147, 148, 11, 149, 34, 38, 150, 151, 152] (by decide +kernel) (by decide +kernel)
set_option maxRecDepth 20000 in
theorem ggL_law_X5_count_p2 : GoodIn wsL_law (wsX5_count_r2 : List Cond) := goodIn_r _ [153, 154, 155, 156, 157, 158, 159, 32, 160, 161, 162, 163, 164, 165, 79, 81, 166, 167, 168, 37, 169, 42, 170] (by decide +kernel) (by decide +kernel)
set_option maxRecDepth 20000 in
theorem ggL_law_X5_count_p3 : GoodIn wsL_law (wsX50 : List Cond) := goodIn_r _ [358, 359, 360, 361, 362] (by decide +kernel) (by decide +kernel)
set_option maxRecDepth 20000 in
theorem ggL_law_X5_count_p4 : GoodIn wsL_law (wsX30 : List Cond) := goodIn_r _ [363, 364, 365, 366, 367, 368, 369, 370] (by decide +kernel) (by decide +kernel)
set_option maxRecDepth 20000 in
theorem ggL_law_X5_count_p5 : GoodIn wsL_law (wsX10 : List Cond) := goodIn_r _ [376, 377, 378, 379, 380, 381, 382] (by decide +kernel) (by decide +kernel)
set_option maxRecDepth 20000 in
theorem ggL_law_X5_count_p6 : GoodIn wsL_law (wsX00 : List Cond) := goodIn_r _ [371, 372, 373] (by decide +kernel) (by decide +kernel)
set_option maxRecDepth 20000 in
theorem ggL_law_X5_count_p7 : GoodIn wsL_law (wsX40 : List Cond) := goodIn_r _ [383, 384, 385, 386, 387, 388, 389, 390, 391, 392] (by decide +kernel) (by decide +kernel)
theorem ggL_law_X5_count : GoodIn wsL_law wsX5_count := by
  show GoodIn wsL_law ([.code yX5_count cX5_count 2 (some .int)] ++ ((((((wsX5_count_r1 ++ wsX5_count_r2) ++ wsX50) ++ wsX30) ++ wsX10) ++ wsX00) ++ wsX40))
  exact goodIn_app ggL_law_X5_count_c (goodIn_app (goodIn_app (goodIn_app (goodIn_app (goodIn_app (goodIn_app ggL_law_X5_count_p1 ggL_law_X5_count_p2) ggL_law_X5_count_p3) ggL_law_X5_count_p4) ggL_law_X5_count_p5) ggL_law_X5_count_p6) ggL_law_X5_count_p7)
set_option maxRecDepth 20000 in
theorem gL_law_X5_count : GoodIn wsL_law (wsV RL 28 RX5 yX5_count wsX5_count) := goodIn_app (goodIn_of _ (by decide +kernel)) ggL_law_X5_count
set_option maxRecDepth 20000 in
theorem ggL_law_L_cell : GoodIn wsL_law wsL_cell := goodIn_r _ [174, 175, 176] (by decide +kernel) (by decide +kernel)
set_option maxRecDepth 20000 in
theorem gL_law_L_cell : GoodIn wsL_law (va_wsS RL 86 yL_cell wsL_cell) := goodIn_app (goodIn_of _ (by decide +kernel)) ggL_law_L_cell
set_option maxRecDepth 20000 in
theorem ggL_law_L_acts_c : GoodIn wsL_law [.code yL_acts cL_acts 18 (some .boolean)] := goodIn_r _ [179] (by decide +kernel) (by decide +kernel)
set_option maxRecDepth 20000 in
theorem ggL_law_L_acts_p1 : GoodIn wsL_law (wsL_acts_r1 : List Cond) := goodIn_r _ [180, 181, 182, 183, 2, 184, 12, 185, 186, 187, 188, 189, 190, 191, 192, 193, 194, 116, 117, 118, 195, 155, 156, 11] (by decide +kernel) (by decide +kernel)
set_option maxRecDepth 20000 in
theorem ggL_law_L_acts_p2 : GoodIn wsL_law (wsL_acts_r2 : List Cond) := goodIn_r _ [157, 158, 159, 32, 160, 196, 197, 198, 37, 199, 42, 200, 170, 201, 167, 168, 169, 202, 203, 204, 205, 105, 45, 108] (by decide +kernel) (by decide +kernel)
set_option maxRecDepth 20000 in
theorem ggL_law_L_acts_p3 : GoodIn wsL_law (wsL_acts_r3 : List Cond) := goodIn_r _ [206, 207, 208, 209, 44, 210, 211, 212, 213, 214, 17, 119, 120, 121, 16, 122, 51, 76, 77, 123, 124, 80, 125, 82] (by decide +kernel) (by decide +kernel)
set_option maxRecDepth 20000 in
theorem ggL_law_L_acts_p4 : GoodIn wsL_law (wsL_acts_r4 : List Cond) := goodIn_r _ [83, 84, 85, 86, 87, 88, 89, 30, 90, 91, 92, 93, 34, 94, 95, 96, 97, 35, 98, 99, 100, 101, 102, 103] (by decide +kernel) (by decide +kernel)
set_option maxRecDepth 20000 in
theorem ggL_law_L_acts_p5 : GoodIn wsL_law (wsL_acts_r5 : List Cond) := goodIn_r _ [43, 104, 106, 107, 215, 216, 217, 218, 219, 220, 221, 222, 223, 224, 225, 226, 227, 228, 229, 230, 231, 232, 233, 146] (by decide +kernel) (by decide +kernel)
set_option maxRecDepth 20000 in
theorem ggL_law_L_acts_p6 : GoodIn wsL_law (wsL_acts_r6 : List Cond) := goodIn_r _ [147, 148, 149, 38, 234, 235, 236, 237, 238, 239, 240, 241, 242, 243, 244, 245, 246, 247, 248, 249, 250, 251, 252, 253] (by decide +kernel) (by decide +kernel)
set_option maxRecDepth 20000 in
theorem ggL_law_L_acts_p7 : GoodIn wsL_law (wsL_acts_r7 : List Cond) := goodIn_r _ [254, 255, 256, 257, 258, 259, 260, 261, 262, 263, 264, 136, 137, 138, 139, 140, 115, 141, 142, 143, 144, 25, 145, 71] (by decide +kernel) (by decide +kernel)
set_option maxRecDepth 20000 in
theorem ggL_law_L_acts_p8 : GoodIn wsL_law (wsL_acts_r8 : List Cond) := goodIn_r _ [150, 151, 152, 153, 154, 161, 162, 163, 164, 165, 79, 81, 166, 265, 266, 267, 268, 269, 270, 271, 272, 273, 274, 275] (by decide +kernel) (by decide +kernel)
set_option maxRecDepth 20000 in
theorem ggL_law_L_acts_p9 : GoodIn wsL_law (wsL_acts_r9 : List Cond) := goodIn_r _ [276, 13, 277, 126, 278, 279, 280, 281, 282, 283, 284, 285, 286, 287, 288, 289, 132, 133, 134, 135, 290, 291, 292, 293] (by decide +kernel) (by decide +kernel)
set_option maxRecDepth 20000 in
theorem ggL_law_L_acts_p10 : GoodIn wsL_law (wsL_acts_r10 : List Cond) := goodIn_r _ [294, 295, 296, 297, 298, 299, 300, 301, 131, 302, 303, 304, 305, 306, 307, 308, 309, 310, 311, 312, 313, 314, 315, 316] (by decide +kernel) (by decide +kernel)
set_option maxRecDepth 20000 in
theorem ggL_law_L_acts_p11 : GoodIn wsL_law (wsL_acts_r11 : List Cond) := goodIn_r _ [127, 128, 129, 130] (by decide +kernel) (by decide +kernel)
set_option maxRecDepth 20000 in
theorem ggL_law_L_acts_p12 : GoodIn wsL_law (wsX50 : List Cond) := goodIn_r _ [358, 359, 360, 361, 362] (by decide +kernel) (by decide +kernel)
set_option maxRecDepth 20000 in
theorem ggL_law_L_acts_p13 : GoodIn wsL_law (wsX30 : List Cond) := goodIn_r _ [363, 364, 365, 366, 367, 368, 369, 370] (by decide +kernel) (by decide +kernel)
set_option maxRecDepth 20000 in
theorem ggL_law_L_acts_p14 : GoodIn wsL_law (wsX40 : List Cond) := goodIn_r _ [383, 384, 385, 386, 387, 388, 389, 390, 391, 392] (by decide +kernel) (by decide +kernel)
set_option maxRecDepth 20000 in
theorem ggL_law_L_acts_p15 : GoodIn wsL_law (wsX00 : List Cond) := goodIn_r _ [371, 372, 373] (by decide +kernel) (by decide +kernel)
set_option maxRecDepth 20000 in
theorem ggL_law_L_acts_p16 : GoodIn wsL_law (wsX10 : List Cond) := goodIn_r _ [376, 377, 378, 379, 380, 381, 382] (by decide +kernel) (by decide +kernel)
theorem ggL_law_L_acts : GoodIn wsL_law wsL_acts := by
  show GoodIn wsL_law ([.code yL_acts cL_acts 18 (some .boolean)] ++ ((((((wsL_acts_r1 ++ (wsL_acts_r2 ++ (wsL_acts_r3 ++ (wsL_acts_r4 ++ (wsL_acts_r5 ++ (wsL_acts_r6 ++ (wsL_acts_r7 ++ (wsL_acts_r8 ++ (wsL_acts_r9 ++ (wsL_acts_r10 ++ wsL_acts_r11)))))))))) ++ wsX50) ++ wsX30) ++ wsX40) ++ wsX00) ++ wsX10))
  exact goodIn_app ggL_law_L_acts_c (goodIn_app (goodIn_app (goodIn_app (goodIn_app (goodIn_app (goodIn_app ggL_law_L_acts_p1 (goodIn_app ggL_law_L_acts_p2 (goodIn_app ggL_law_L_acts_p3 (goodIn_app ggL_law_L_acts_p4 (goodIn_app ggL_law_L_acts_p5 (goodIn_app ggL_law_L_acts_p6 (goodIn_app ggL_law_L_acts_p7 (goodIn_app ggL_law_L_acts_p8 (goodIn_app ggL_law_L_acts_p9 (goodIn_app ggL_law_L_acts_p10 ggL_law_L_acts_p11)))))))))) ggL_law_L_acts_p12) ggL_law_L_acts_p13) ggL_law_L_acts_p14) ggL_law_L_acts_p15) ggL_law_L_acts_p16)
set_option maxRecDepth 20000 in
theorem gL_law_L_acts : GoodIn wsL_law (va_wsS RL 90 yL_acts wsL_acts) := goodIn_app (goodIn_of _ (by decide +kernel)) ggL_law_L_acts
set_option maxRecDepth 20000 in
theorem ggL_law_L_areWheels_c : GoodIn wsL_law [.code yL_areWheels cL_areWheels 14 (some .boolean)] := goodIn_r _ [319] (by decide +kernel) (by decide +kernel)
set_option maxRecDepth 20000 in
theorem ggL_law_L_areWheels_p1 : GoodIn wsL_law (wsL_areWheels_r1 : List Cond) := goodIn_r _ [180, 320, 181, 182, 183, 2, 184, 12, 185, 186, 187, 188, 189, 190, 191, 192, 193, 194, 116, 117, 118, 195, 155, 156] (by decide +kernel) (by decide +kernel)
set_option maxRecDepth 20000 in
theorem ggL_law_L_areWheels_p2 : GoodIn wsL_law (wsL_areWheels_r2 : List Cond) := goodIn_r _ [11, 157, 158, 159, 32, 160, 196, 197, 198, 37, 199, 42, 200, 170, 201, 167, 168, 169, 202, 203, 204, 205, 105, 45] (by decide +kernel) (by decide +kernel)
set_option maxRecDepth 20000 in
theorem ggL_law_L_areWheels_p3 : GoodIn wsL_law (wsL_areWheels_r3 : List Cond) := goodIn_r _ [108, 206, 207, 208, 209, 44, 257, 258, 259, 260, 261, 223, 224, 225, 262, 263, 264, 321, 322, 173, 323, 324, 325, 326] (by decide +kernel) (by decide +kernel)
set_option maxRecDepth 20000 in
theorem ggL_law_L_areWheels_p4 : GoodIn wsL_law (wsL_areWheels_r4 : List Cond) := goodIn_r _ [327, 328, 329, 80, 330, 136, 137, 138, 139, 140, 115, 141, 142, 124, 125, 143, 144, 25, 145, 17, 71, 146, 147, 148] (by decide +kernel) (by decide +kernel)
set_option maxRecDepth 20000 in
theorem ggL_law_L_areWheels_p5 : GoodIn wsL_law (wsL_areWheels_r5 : List Cond) := goodIn_r _ [149, 34, 38, 150, 151, 152, 153, 154, 161, 162, 163, 164, 165, 79, 81, 166] (by decide +kernel) (by decide +kernel)
set_option maxRecDepth 20000 in
theorem ggL_law_L_areWheels_p6 : GoodIn wsL_law (wsX50 : List Cond) := goodIn_r _ [358, 359, 360, 361, 362] (by decide +kernel) (by decide +kernel)
set_option maxRecDepth 20000 in
theorem ggL_law_L_areWheels_p7 : GoodIn wsL_law (wsX30 : List Cond) := goodIn_r _ [363, 364, 365, 366, 367, 368, 369, 370] (by decide +kernel) (by decide +kernel)
set_option maxRecDepth 20000 in
theorem ggL_law_L_areWheels_p8 : GoodIn wsL_law (wsX40 : List Cond) := goodIn_r _ [383, 384, 385, 386, 387, 388, 389, 390, 391, 392] (by decide +kernel) (by decide +kernel)
set_option maxRecDepth 20000 in
theorem ggL_law_L_areWheels_p9 : GoodIn wsL_law (wsX10 : List Cond) := goodIn_r _ [376, 377, 378, 379, 380, 381, 382] (by decide +kernel) (by decide +kernel)
set_option maxRecDepth 20000 in
theorem ggL_law_L_areWheels_p10 : GoodIn wsL_law (wsX00 : List Cond) := goodIn_r _ [371, 372, 373] (by decide +kernel) (by decide +kernel)
theorem ggL_law_L_areWheels : GoodIn wsL_law wsL_areWheels := by
  show GoodIn wsL_law ([.code yL_areWheels cL_areWheels 14 (some .boolean)] ++ ((((((wsL_areWheels_r1 ++ (wsL_areWheels_r2 ++ (wsL_areWheels_r3 ++ (wsL_areWheels_r4 ++ wsL_areWheels_r5)))) ++ wsX50) ++ wsX30) ++ wsX40) ++ wsX10) ++ wsX00))
  exact goodIn_app ggL_law_L_areWheels_c (goodIn_app (goodIn_app (goodIn_app (goodIn_app (goodIn_app (goodIn_app ggL_law_L_areWheels_p1 (goodIn_app ggL_law_L_areWheels_p2 (goodIn_app ggL_law_L_areWheels_p3 (goodIn_app ggL_law_L_areWheels_p4 ggL_law_L_areWheels_p5)))) ggL_law_L_areWheels_p6) ggL_law_L_areWheels_p7) ggL_law_L_areWheels_p8) ggL_law_L_areWheels_p9) ggL_law_L_areWheels_p10)
set_option maxRecDepth 20000 in
theorem gL_law_L_areWheels : GoodIn wsL_law (va_wsS RL 94 yL_areWheels wsL_areWheels) := goodIn_app (goodIn_of _ (by decide +kernel)) ggL_law_L_areWheels
set_option maxRecDepth 20000 in
theorem ggL_law_X5_save_c : GoodIn wsL_law [.code yX5_save cX5_save 2 (some .int)] := goodIn_r _ [334] (by decide +kernel) (by decide +kernel)
set_option maxRecDepth 20000 in
theorem ggL_law_X5_save_p1 : GoodIn wsL_law (wsX5_save_r1 : List Cond) := goodIn_r _ [21, 114, 12, 113, 115, 116, 117, 2, 118, 126, 87, 88, 11, 89, 30, 32, 90, 91, 92, 93, 34, 94, 95, 96] (by decide +kernel) (by decide +kernel)
set_option maxRecDepth 20000 in
theorem ggL_law_X5_save_p2 : GoodIn wsL_law (wsX5_save_r2 : List Cond) := goodIn_r _ [97, 35, 98, 99, 100, 37, 101, 102, 42, 103, 43, 104, 105, 44, 106, 45, 107, 108] (by decide +kernel) (by decide +kernel)
set_option maxRecDepth 20000 in
theorem ggL_law_X5_save_p3 : GoodIn wsL_law (wsX50 : List Cond) := goodIn_r _ [358, 359, 360, 361, 362] (by decide +kernel) (by decide +kernel)
set_option maxRecDepth 20000 in
theorem ggL_law_X5_save_p4 : GoodIn wsL_law (wsX20 : List Cond) := goodIn_r _ [374, 375] (by decide +kernel) (by decide +kernel)
set_option maxRecDepth 20000 in
theorem ggL_law_X5_save_p5 : GoodIn wsL_law (wsX30 : List Cond) := goodIn_r _ [363, 364, 365, 366, 367, 368, 369, 370] (by decide +kernel) (by decide +kernel)
set_option maxRecDepth 20000 in
theorem ggL_law_X5_save_p6 : GoodIn wsL_law (wsX40 : List Cond) := goodIn_r _ [383, 384, 385, 386, 387, 388, 389, 390, 391, 392] (by decide +kernel) (by decide +kernel)
theorem ggL_law_X5_save : GoodIn wsL_law wsX5_save := by
  show GoodIn wsL_law ([.code yX5_save cX5_save 2 (some .int)] ++ (((((wsX5_save_r1 ++ wsX5_save_r2) ++ wsX50) ++ wsX20) ++ wsX30) ++ wsX40))
  exact goodIn_app ggL_law_X5_save_c (goodIn_app (goodIn_app (goodIn_app (goodIn_app (goodIn_app ggL_law_X5_save_p1 ggL_law_X5_save_p2) ggL_law_X5_save_p3) ggL_law_X5_save_p4) ggL_law_X5_save_p5) ggL_law_X5_save_p6)
set_option maxRecDepth 20000 in
theorem gL_law_X5_save : GoodIn wsL_law (wsV RL 42 RX5 yX5_save wsX5_save) := goodIn_app (goodIn_of _ (by decide +kernel)) ggL_law_X5_save
set_option maxRecDepth 20000 in
theorem ggL_law_L_areSamples_c : GoodIn wsL_law [.code yL_areSamples cL_areSamples 21 (some .boolean)] := goodIn_r _ [337] (by decide +kernel) (by decide +kernel)
set_option maxRecDepth 20000 in
theorem ggL_law_L_areSamples_p1 : GoodIn wsL_law (wsL_areSamples_r1 : List Cond) := goodIn_r _ [338, 273, 274, 275, 2, 276, 13, 12, 277, 79, 80, 81, 142, 124, 125, 141, 116, 117, 118, 126, 87, 88, 11, 89] (by decide +kernel) (by decide +kernel)
set_option maxRecDepth 20000 in
theorem ggL_law_L_areSamples_p2 : GoodIn wsL_law (wsL_areSamples_r2 : List Cond) := goodIn_r _ [30, 32, 90, 91, 92, 93, 34, 94, 95, 96, 97, 35, 98, 99, 100, 37, 101, 102, 42, 103, 43, 104, 105, 44] (by decide +kernel) (by decide +kernel)
set_option maxRecDepth 20000 in
theorem ggL_law_L_areSamples_p3 : GoodIn wsL_law (wsL_areSamples_r3 : List Cond) := goodIn_r _ [106, 45, 107, 108, 278, 279, 280, 281, 282, 38, 283, 151, 152, 153, 154, 155, 156, 157, 158, 159, 160, 284, 285, 286] (by decide +kernel) (by decide +kernel)
set_option maxRecDepth 20000 in
theorem ggL_law_L_areSamples_p4 : GoodIn wsL_law (wsL_areSamples_r4 : List Cond) := goodIn_r _ [287, 288, 289, 132, 133, 134, 135, 83, 84, 85, 290, 291, 292, 293, 170, 294, 295, 296, 297, 298, 299, 300, 301, 253] (by decide +kernel) (by decide +kernel)
set_option maxRecDepth 20000 in
theorem ggL_law_L_areSamples_p5 : GoodIn wsL_law (wsL_areSamples_r5 : List Cond) := goodIn_r _ [254, 255, 256, 131, 339, 340, 341, 342, 136, 137, 138, 139, 140, 115, 143, 144, 25, 145, 17, 71, 146, 147, 148, 149] (by decide +kernel) (by decide +kernel)
set_option maxRecDepth 20000 in
theorem ggL_law_L_areSamples_p6 : GoodIn wsL_law (wsL_areSamples_r6 : List Cond) := goodIn_r _ [150, 161, 162, 163, 164, 165, 166, 167, 168, 169, 127, 128, 129, 130, 331, 332, 333, 334, 21, 114, 113, 302, 303, 304] (by decide +kernel) (by decide +kernel)
set_option maxRecDepth 20000 in
theorem ggL_law_L_areSamples_p7 : GoodIn wsL_law (wsL_areSamples_r7 : List Cond) := goodIn_r _ [305, 306, 307, 308, 309, 310, 119, 120, 121, 16, 122, 51, 76, 77, 123, 82, 86, 311, 312, 313, 314, 315, 316, 109] (by decide +kernel) (by decide +kernel)
set_option maxRecDepth 20000 in
theorem ggL_law_L_areSamples_p8 : GoodIn wsL_law (wsL_areSamples_r8 : List Cond) := goodIn_r _ [110, 111, 112] (by decide +kernel) (by decide +kernel)
set_option maxRecDepth 20000 in
theorem ggL_law_L_areSamples_p9 : GoodIn wsL_law (wsX50 : List Cond) := goodIn_r _ [358, 359, 360, 361, 362] (by decide +kernel) (by decide +kernel)
set_option maxRecDepth 20000 in
theorem ggL_law_L_areSamples_p10 : GoodIn wsL_law (wsX30 : List Cond) := goodIn_r _ [363, 364, 365, 366, 367, 368, 369, 370] (by decide +kernel) (by decide +kernel)
set_option maxRecDepth 20000 in
theorem ggL_law_L_areSamples_p11 : GoodIn wsL_law (wsX40 : List Cond) := goodIn_r _ [383, 384, 385, 386, 387, 388, 389, 390, 391, 392] (by decide +kernel) (by decide +kernel)
set_option maxRecDepth 20000 in
theorem ggL_law_L_areSamples_p12 : GoodIn wsL_law (wsX10 : List Cond) := goodIn_r _ [376, 377, 378, 379, 380, 381, 382] (by decide +kernel) (by decide +kernel)
set_option maxRecDepth 20000 in
theorem ggL_law_L_areSamples_p13 : GoodIn wsL_law (wsX00 : List Cond) := goodIn_r _ [371, 372, 373] (by decide +kernel) (by decide +kernel)
set_option maxRecDepth 20000 in
theorem ggL_law_L_areSamples_p14 : GoodIn wsL_law (wsX20 : List Cond) := goodIn_r _ [374, 375] (by decide +kernel) (by decide +kernel)
theorem ggL_law_L_areSamples : GoodIn wsL_law wsL_areSamples := by
  show GoodIn wsL_law ([.code yL_areSamples cL_areSamples 21 (some .boolean)] ++ (((((((wsL_areSamples_r1 ++ (wsL_areSamples_r2 ++ (wsL_areSamples_r3 ++ (wsL_areSamples_r4 ++ (wsL_areSamples_r5 ++ (wsL_areSamples_r6 ++ (wsL_areSamples_r7 ++ wsL_areSamples_r8))))))) ++ wsX50) ++ wsX30) ++ wsX40) ++ wsX10) ++ wsX00) ++ wsX20))
  exact goodIn_app ggL_law_L_areSamples_c (goodIn_app (goodIn_app (goodIn_app (goodIn_app (goodIn_app (goodIn_app (goodIn_app ggL_law_L_areSamples_p1 (goodIn_app ggL_law_L_areSamples_p2 (goodIn_app ggL_law_L_areSamples_p3 (goodIn_app ggL_law_L_areSamples_p4 (goodIn_app ggL_law_L_areSamples_p5 (goodIn_app ggL_law_L_areSamples_p6 (goodIn_app ggL_law_L_areSamples_p7 ggL_law_L_areSamples_p8))))))) ggL_law_L_areSamples_p9) ggL_law_L_areSamples_p10) ggL_law_L_areSamples_p11) ggL_law_L_areSamples_p12) ggL_law_L_areSamples_p13) ggL_law_L_areSamples_p14)
set_option maxRecDepth 20000 in
theorem gL_law_L_areSamples : GoodIn wsL_law (va_wsS RL 98 yL_areSamples wsL_areSamples) := goodIn_app (goodIn_of _ (by decide +kernel)) ggL_law_L_areSamples
set_option maxRecDepth 20000 in
theorem ggL_law_L_isRound_c : GoodIn wsL_law [.code yL_isRound cL_isRound 7 (some .boolean)] := goodIn_r _ [345] (by decide +kernel) (by decide +kernel)
set_option maxRecDepth 20000 in
theorem ggL_law_L_isRound_p1 : GoodIn wsL_law (wsL_isRound_r1 : List Cond) := goodIn_r _ [346, 347, 348, 349, 2, 350, 13, 12, 185, 192, 193, 194, 116, 117, 118, 126, 87, 88, 11, 89, 30, 32, 90, 91] (by decide +kernel) (by decide +kernel)
set_option maxRecDepth 20000 in
theorem ggL_law_L_isRound_p2 : GoodIn wsL_law (wsL_isRound_r2 : List Cond) := goodIn_r _ [92, 93, 34, 94, 95, 96, 97, 35, 98, 99, 100, 37, 101, 102, 42, 103, 43, 104, 105, 44, 106, 45, 107, 108] (by decide +kernel) (by decide +kernel)
set_option maxRecDepth 20000 in
theorem ggL_law_L_isRound_p3 : GoodIn wsL_law (wsL_isRound_r3 : List Cond) := goodIn_r _ [351, 352, 353, 354, 355, 356, 357, 291, 292, 293, 170, 294, 295, 296, 297, 298, 299, 300, 301, 253, 254, 255, 256, 181] (by decide +kernel) (by decide +kernel)
set_option maxRecDepth 20000 in
theorem ggL_law_L_isRound_p4 : GoodIn wsL_law (wsL_isRound_r4 : List Cond) := goodIn_r _ [182, 183, 184, 186, 187, 188, 189, 190, 191, 195, 155, 156, 157, 158, 159, 160, 196, 197, 198, 199, 200, 201, 167, 168] (by decide +kernel) (by decide +kernel)
set_option maxRecDepth 20000 in
theorem ggL_law_L_isRound_p5 : GoodIn wsL_law (wsL_isRound_r5 : List Cond) := goodIn_r _ [169, 202, 203, 204, 205, 206, 207, 208, 209, 230, 231, 232, 233, 17, 119, 120, 121, 16, 122, 51, 76, 77, 123, 124] (by decide +kernel) (by decide +kernel)
set_option maxRecDepth 20000 in
theorem ggL_law_L_isRound_p6 : GoodIn wsL_law (wsL_isRound_r6 : List Cond) := goodIn_r _ [80, 125, 82, 83, 84, 85, 86, 146, 147, 148, 149, 38, 234, 235, 236, 237, 238, 239, 240, 302, 303, 304, 305, 306] (by decide +kernel) (by decide +kernel)
set_option maxRecDepth 20000 in
theorem ggL_law_L_isRound_p7 : GoodIn wsL_law (wsL_isRound_r7 : List Cond) := goodIn_r _ [307, 308, 309, 310, 311, 312, 313, 314, 315, 316, 279, 280, 281, 282, 283, 151, 152, 153, 154, 284, 285, 286, 287, 288] (by decide +kernel) (by decide +kernel)
set_option maxRecDepth 20000 in
theorem ggL_law_L_isRound_p8 : GoodIn wsL_law (wsL_isRound_r8 : List Cond) := goodIn_r _ [289, 132, 133, 134, 135, 290, 131] (by decide +kernel) (by decide +kernel)
set_option maxRecDepth 20000 in
theorem ggL_law_L_isRound_p9 : GoodIn wsL_law (wsX50 : List Cond) := goodIn_r _ [358, 359, 360, 361, 362] (by decide +kernel) (by decide +kernel)
set_option maxRecDepth 20000 in
theorem ggL_law_L_isRound_p10 : GoodIn wsL_law (wsX30 : List Cond) := goodIn_r _ [363, 364, 365, 366, 367, 368, 369, 370] (by decide +kernel) (by decide +kernel)
set_option maxRecDepth 20000 in
theorem ggL_law_L_isRound_p11 : GoodIn wsL_law (wsX40 : List Cond) := goodIn_r _ [383, 384, 385, 386, 387, 388, 389, 390, 391, 392] (by decide +kernel) (by decide +kernel)
set_option maxRecDepth 20000 in
theorem ggL_law_L_isRound_p12 : GoodIn wsL_law (wsX00 : List Cond) := goodIn_r _ [371, 372, 373] (by decide +kernel) (by decide +kernel)
theorem ggL_law_L_isRound : GoodIn wsL_law wsL_isRound := by
  show GoodIn wsL_law ([.code yL_isRound cL_isRound 7 (some .boolean)] ++ (((((wsL_isRound_r1 ++ (wsL_isRound_r2 ++ (wsL_isRound_r3 ++ (wsL_isRound_r4 ++ (wsL_isRound_r5 ++ (wsL_isRound_r6 ++ (wsL_isRound_r7 ++ wsL_isRound_r8))))))) ++ wsX50) ++ wsX30) ++ wsX40) ++ wsX00))
  exact goodIn_app ggL_law_L_isRound_c (goodIn_app (goodIn_app (goodIn_app (goodIn_app (goodIn_app ggL_law_L_isRound_p1 (goodIn_app ggL_law_L_isRound_p2 (goodIn_app ggL_law_L_isRound_p3 (goodIn_app ggL_law_L_isRound_p4 (goodIn_app ggL_law_L_isRound_p5 (goodIn_app ggL_law_L_isRound_p6 (goodIn_app ggL_law_L_isRound_p7 ggL_law_L_isRound_p8))))))) ggL_law_L_isRound_p9) ggL_law_L_isRound_p10) ggL_law_L_isRound_p11) ggL_law_L_isRound_p12)
set_option maxRecDepth 20000 in
theorem gL_law_L_isRound : GoodIn wsL_law (va_wsS RL 101 yL_isRound wsL_isRound) := goodIn_app (goodIn_of _ (by decide +kernel)) ggL_law_L_isRound
