set_option maxRecDepth 20000 in
theorem ggL_law_X5_init : GoodIn wsL_law wsX5_init := goodIn_r _ [9, 10, 11, 12, 13, 14, 15, 16, 17, 18, 19, 20, 21, 22, 23, 24, 25, 26, 27, 28, 29, 30, 31, 32, 33, 34, 35, 36, 37, 38, 39, 40, 41, 42, 43, 44, 45, 46, 47, 48, 49, 50, 51, 52, 53, 54, 55, 56, 57, 58, 59, 60, 61, 62, 63, 64, 65, 66, 67, 68, 69, 70, 675, 676, 677, 678, 679, 680, 681, 682, 658, 659, 660, 661, 662, 683, 684, 685, 686, 687, 688, 689, 690, 691, 692, 693, 694, 695, 696, 697, 698, 699, 700, 701, 702, 703, 704] (by decide +kernel) (by decide +kernel)
set_option maxRecDepth 20000 in
theorem gL_law_X5_init : GoodIn wsL_law (wsX5_init) := ggL_law_X5_init
set_option maxRecDepth 20000 in
theorem ggL_law_X6_init : GoodIn wsL_law wsX6_init := goodIn_r _ [73, 74, 11, 12, 35, 75, 76, 77, 78, 79, 63, 80, 81, 69, 82, 83, 84, 5, 85, 663, 664, 665, 666, 667, 668, 669, 670, 671, 672, 673, 674] (by decide +kernel) (by decide +kernel)
set_option maxRecDepth 20000 in
theorem gL_law_X6_init : GoodIn wsL_law (wsX6_init) := ggL_law_X6_init
set_option maxRecDepth 20000 in
theorem ggL_law_X5_clip : GoodIn wsL_law wsX5_clip := goodIn_r _ [89, 21, 16, 90, 91, 92, 2, 93, 94, 95, 96, 20, 97, 55, 98, 99, 100, 101, 102, 103, 104, 105, 106, 107, 108, 109, 110, 15, 111, 34, 36, 112, 113, 114, 115, 38, 116, 117, 118, 119, 39, 120, 121, 122, 41, 123, 124, 46, 125, 47, 126, 127, 48, 128, 49, 129, 130, 658, 659, 660, 661, 662, 675, 676, 677, 678, 679, 680, 681, 682, 683, 684, 685, 695, 696, 697, 698, 699, 700, 701, 702, 703, 704] (by decide +kernel) (by decide +kernel)
set_option maxRecDepth 20000 in
theorem gL_law_X5_clip : GoodIn wsL_law (wsV RL 13 RX5 yX5_clip wsX5_clip) := goodIn_app (goodIn_of _ (by decide +kernel)) ggL_law_X5_clip
set_option maxRecDepth 20000 in
theorem ggL_law_X6_clip : GoodIn wsL_law wsX6_clip := goodIn_r _ [134, 75, 135, 136, 5, 137, 138, 139, 140, 141, 76, 142, 143, 144, 145, 146, 78, 663, 664, 665, 666, 667, 668, 669, 670, 671, 672, 673, 674] (by decide +kernel) (by decide +kernel)
set_option maxRecDepth 20000 in
theorem gL_law_X6_clip : GoodIn wsL_law (wsV RL 17 RX6 yX6_clip wsX6_clip) := goodIn_app (goodIn_of _ (by decide +kernel)) ggL_law_X6_clip
set_option maxRecDepth 20000 in
theorem ggL_law_X5_fill : GoodIn wsL_law wsX5_fill := goodIn_r _ [150, 21, 16, 151, 152, 153, 2, 154, 91, 92, 93, 155, 156, 157, 94, 95, 96, 20, 97, 55, 98, 99, 100, 101, 102, 103, 104, 105, 106, 107, 108, 109, 110, 15, 111, 34, 36, 112, 113, 114, 115, 38, 116, 117, 118, 119, 39, 120, 121, 122, 41, 123, 124, 46, 125, 47, 126, 127, 48, 128, 49, 129, 130, 658, 659, 660, 661, 662, 675, 676, 677, 678, 679, 680, 681, 682, 683, 684, 685, 695, 696, 697, 698, 699, 700, 701, 702, 703, 704] (by decide +kernel) (by decide +kernel)
set_option maxRecDepth 20000 in
theorem gL_law_X5_fill : GoodIn wsL_law (wsV RL 18 RX5 yX5_fill wsX5_fill) := goodIn_app (goodIn_of _ (by decide +kernel)) ggL_law_X5_fill
set_option maxRecDepth 20000 in
theorem ggL_law_X6_fill : GoodIn wsL_law wsX6_fill := goodIn_r _ [161, 75, 162, 163, 5, 164, 135, 136, 137, 138, 139, 140, 141, 76, 142, 143, 144, 145, 146, 78, 663, 664, 665, 666, 667, 668, 669, 670, 671, 672, 673, 674] (by decide +kernel) (by decide +kernel)
set_option maxRecDepth 20000 in
theorem gL_law_X6_fill : GoodIn wsL_law (wsV RL 22 RX6 yX6_fill wsX6_fill) := goodIn_app (goodIn_of _ (by decide +kernel)) ggL_law_X6_fill
set_option maxRecDepth 20000 in
theorem ggL_law_X5_step : GoodIn wsL_law wsX5_step := goodIn_r _ [168, 169, 21, 16, 170, 171, 172, 173, 2, 174, 91, 92, 93, 94, 95, 96, 20, 97, 55, 98, 99, 100, 101, 102, 103, 104, 105, 106, 107, 108, 109, 110, 15, 111, 34, 36, 112, 113, 114, 115, 38, 116, 117, 118, 119, 39, 120, 121, 122, 41, 123, 124, 46, 125, 47, 126, 127, 48, 128, 49, 129, 130, 175, 176, 177, 178, 658, 659, 660, 661, 662, 675, 676, 677, 678, 679, 680, 681, 682, 695, 696, 697, 698, 699, 700, 701, 702, 703, 704, 683, 684, 685] (by decide +kernel) (by decide +kernel)
set_option maxRecDepth 20000 in
theorem gL_law_X5_step : GoodIn wsL_law (wsV RL 23 RX5 yX5_step wsX5_step) := goodIn_app (goodIn_of _ (by decide +kernel)) ggL_law_X5_step
set_option maxRecDepth 20000 in
theorem ggL_law_X6_step : GoodIn wsL_law wsX6_step := goodIn_r _ [182, 138, 139, 140, 5, 141, 76, 75, 183, 184, 185, 186, 187, 162, 163, 164, 135, 136, 137, 83, 84, 85, 142, 143, 144, 145, 146, 78, 663, 664, 665, 666, 667, 668, 669, 670, 671, 672, 673, 674] (by decide +kernel) (by decide +kernel)
set_option maxRecDepth 20000 in
theorem gL_law_X6_step : GoodIn wsL_law (wsV RL 27 RX6 yX6_step wsX6_step) := goodIn_app (goodIn_of _ (by decide +kernel)) ggL_law_X6_step
set_option maxRecDepth 20000 in
theorem ggL_law_X5_table : GoodIn wsL_law wsX5_table := goodIn_r _ [191, 21, 16, 170, 192, 172, 173, 2, 174, 91, 92, 93, 152, 153, 154, 94, 95, 96, 20, 97, 55, 98, 99, 100, 101, 102, 103, 104, 105, 106, 107, 108, 109, 110, 15, 111, 34, 36, 112, 113, 114, 115, 38, 116, 117, 118, 119, 39, 120, 121, 122, 41, 123, 124, 46, 125, 47, 126, 127, 48, 128, 49, 129, 130, 658, 659, 660, 661, 662, 675, 676, 677, 678, 679, 680, 681, 682, 695, 696, 697, 698, 699, 700, 701, 702, 703, 704, 683, 684, 685] (by decide +kernel) (by decide +kernel)
set_option maxRecDepth 20000 in
theorem gL_law_X5_table : GoodIn wsL_law (wsV RL 28 RX5 yX5_table wsX5_table) := goodIn_app (goodIn_of _ (by decide +kernel)) ggL_law_X5_table
set_option maxRecDepth 20000 in
theorem ggL_law_X6_table : GoodIn wsL_law wsX6_table := goodIn_r _ [196, 138, 139, 140, 5, 141, 76, 75, 197, 198, 199, 200, 162, 163, 164, 135, 136, 137, 83, 84, 85, 142, 143, 144, 145, 146, 78, 663, 664, 665, 666, 667, 668, 669, 670, 671, 672, 673, 674] (by decide +kernel) (by decide +kernel)
set_option maxRecDepth 20000 in
theorem gL_law_X6_table : GoodIn wsL_law (wsV RL 31 RX6 yX6_table wsX6_table) := goodIn_app (goodIn_of _ (by decide +kernel)) ggL_law_X6_table
set_option maxRecDepth 20000 in
theorem ggL_law_X5_volume : GoodIn wsL_law wsX5_volume := goodIn_r _ [204, 21, 16, 170, 205, 172, 173, 2, 174, 91, 92, 93, 94, 95, 96, 20, 97, 55, 98, 99, 100, 101, 102, 103, 104, 105, 106, 107, 108, 109, 110, 15, 111, 34, 36, 112, 113, 114, 115, 38, 116, 117, 118, 119, 39, 120, 121, 122, 41, 123, 124, 46, 125, 47, 126, 127, 48, 128, 49, 129, 130, 658, 659, 660, 661, 662, 675, 676, 677, 678, 679, 680, 681, 682, 695, 696, 697, 698, 699, 700, 701, 702, 703, 704, 683, 684, 685] (by decide +kernel) (by decide +kernel)
set_option maxRecDepth 20000 in
theorem gL_law_X5_volume : GoodIn wsL_law (wsV RL 32 RX5 yX5_volume wsX5_volume) := goodIn_app (goodIn_of _ (by decide +kernel)) ggL_law_X5_volume
set_option maxRecDepth 20000 in
theorem ggL_law_X6_volume : GoodIn wsL_law wsX6_volume := goodIn_r _ [209, 138, 139, 140, 5, 141, 76, 75, 210, 211, 212, 213, 162, 163, 164, 135, 136, 137, 83, 84, 85, 142, 143, 144, 145, 146, 78, 663, 664, 665, 666, 667, 668, 669, 670, 671, 672, 673, 674] (by decide +kernel) (by decide +kernel)
set_option maxRecDepth 20000 in
theorem gL_law_X6_volume : GoodIn wsL_law (wsV RL 35 RX6 yX6_volume wsX6_volume) := goodIn_app (goodIn_of _ (by decide +kernel)) ggL_law_X6_volume
set_option maxRecDepth 20000 in
theorem ggL_law_X5_turn : GoodIn wsL_law wsX5_turn := goodIn_r _ [217, 16, 170, 218, 21, 172, 173, 2, 174, 91, 92, 93, 94, 95, 96, 20, 97, 55, 98, 99, 100, 101, 102, 103, 104, 105, 106, 107, 108, 109, 110, 15, 111, 34, 36, 112, 113, 114, 115, 38, 116, 117, 118, 119, 39, 120, 121, 122, 41, 123, 124, 46, 125, 47, 126, 127, 48, 128, 49, 129, 130, 219, 220, 221, 222, 42, 223, 224, 225, 226, 227, 228, 229, 658, 659, 660, 661, 662, 675, 676, 677, 678, 679, 680, 681, 682, 695, 696, 697, 698, 699, 700, 701, 702, 703, 704, 683, 684, 685] (by decide +kernel) (by decide +kernel)
set_option maxRecDepth 20000 in
theorem gL_law_X5_turn : GoodIn wsL_law (wsV RL 36 RX5 yX5_turn wsX5_turn) := goodIn_app (goodIn_of _ (by decide +kernel)) ggL_law_X5_turn
set_option maxRecDepth 20000 in
theorem ggL_law_X6_turn : GoodIn wsL_law wsX6_turn := goodIn_r _ [233, 138, 139, 140, 5, 141, 76, 75, 234, 235, 236, 237, 162, 163, 164, 135, 136, 137, 83, 84, 85, 238, 239, 240, 241, 142, 143, 144, 145, 146, 78, 663, 664, 665, 666, 667, 668, 669, 670, 671, 672, 673, 674] (by decide +kernel) (by decide +kernel)
set_option maxRecDepth 20000 in
theorem gL_law_X6_turn : GoodIn wsL_law (wsV RL 40 RX6 yX6_turn wsX6_turn) := goodIn_app (goodIn_of _ (by decide +kernel)) ggL_law_X6_turn
set_option maxRecDepth 20000 in
theorem ggL_law_X5_phase : GoodIn wsL_law wsX5_phase := goodIn_r _ [245, 169, 21, 16, 170, 246, 172, 173, 2, 174, 91, 92, 93, 94, 95, 96, 20, 97, 55, 98, 99, 100, 101, 102, 103, 104, 105, 106, 107, 108, 109, 110, 15, 111, 34, 36, 112, 113, 114, 115, 38, 116, 117, 118, 119, 39, 120, 121, 122, 41, 123, 124, 46, 125, 47, 126, 127, 48, 128, 49, 129, 130, 658, 659, 660, 661, 662, 675, 676, 677, 678, 679, 680, 681, 682, 695, 696, 697, 698, 699, 700, 701, 702, 703, 704, 683, 684, 685] (by decide +kernel) (by decide +kernel)
set_option maxRecDepth 20000 in
theorem gL_law_X5_phase : GoodIn wsL_law (wsV RL 41 RX5 yX5_phase wsX5_phase) := goodIn_app (goodIn_of _ (by decide +kernel)) ggL_law_X5_phase
set_option maxRecDepth 20000 in
theorem ggL_law_X6_phase : GoodIn wsL_law wsX6_phase := goodIn_r _ [250, 187, 75, 162, 163, 5, 164, 135, 136, 137, 138, 139, 140, 141, 76, 83, 84, 85, 142, 143, 144, 145, 146, 78, 663, 664, 665, 666, 667, 668, 669, 670, 671, 672, 673, 674] (by decide +kernel) (by decide +kernel)
set_option maxRecDepth 20000 in
theorem gL_law_X6_phase : GoodIn wsL_law (wsV RL 44 RX6 yX6_phase wsX6_phase) := goodIn_app (goodIn_of _ (by decide +kernel)) ggL_law_X6_phase
set_option maxRecDepth 20000 in
theorem ggL_law_X5_sweep : GoodIn wsL_law wsX5_sweep := goodIn_r _ [254, 169, 16, 170, 255, 21, 172, 173, 2, 174, 91, 92, 93, 94, 95, 96, 20, 97, 55, 98, 99, 100, 101, 102, 103, 104, 105, 106, 107, 108, 109, 110, 15, 111, 34, 36, 112, 113, 114, 115, 38, 116, 117, 118, 119, 39, 120, 121, 122, 41, 123, 124, 46, 125, 47, 126, 127, 48, 128, 49, 129, 130, 256, 257, 258, 259, 260, 261, 262, 263, 658, 659, 660, 661, 662, 675, 676, 677, 678, 679, 680, 681, 682, 695, 696, 697, 698, 699, 700, 701, 702, 703, 704, 683, 684, 685] (by decide +kernel) (by decide +kernel)
set_option maxRecDepth 20000 in
theorem gL_law_X5_sweep : GoodIn wsL_law (wsV RL 45 RX5 yX5_sweep wsX5_sweep) := goodIn_app (goodIn_of _ (by decide +kernel)) ggL_law_X5_sweep
set_option maxRecDepth 20000 in
theorem ggL_law_X6_sweep : GoodIn wsL_law wsX6_sweep := goodIn_r _ [267, 138, 139, 140, 5, 141, 76, 75, 268, 269, 270, 271, 187, 162, 163, 164, 135, 136, 137, 83, 84, 85, 142, 143, 144, 145, 146, 78, 663, 664, 665, 666, 667, 668, 669, 670, 671, 672, 673, 674] (by decide +kernel) (by decide +kernel)
set_option maxRecDepth 20000 in
theorem gL_law_X6_sweep : GoodIn wsL_law (wsV RL 48 RX6 yX6_sweep wsX6_sweep) := goodIn_app (goodIn_of _ (by decide +kernel)) ggL_law_X6_sweep
set_option maxRecDepth 20000 in
theorem ggL_law_X5_make : GoodIn wsL_law wsX5_make := goodIn_r _ [275, 16, 21, 91, 92, 2, 93, 276, 277, 278, 15, 279, 280, 116, 94, 95, 96, 20, 97, 55, 98, 99, 100, 101, 102, 103, 104, 105, 106, 107, 108, 109, 110, 111, 34, 36, 112, 113, 114, 115, 38, 117, 118, 119, 39, 120, 121, 122, 41, 123, 124, 46, 125, 47, 126, 127, 48, 128, 49, 129, 130, 281, 282, 283, 284, 285, 286, 287, 288, 289, 290, 42, 291, 292, 293, 294, 295, 296, 297, 298, 299, 300, 301, 302, 303, 304, 305, 306, 307, 308, 309, 310, 311, 312, 313, 314, 315, 316, 317, 318, 319, 320, 321, 322, 323, 324, 260, 261, 262, 263, 325, 658, 659, 660, 661, 662, 675, 676, 677, 678, 679, 680, 681, 682, 683, 684, 685, 695, 696, 697, 698, 699, 700, 701, 702, 703, 704] (by decide +kernel) (by decide +kernel)
set_option maxRecDepth 20000 in
theorem gL_law_X5_make : GoodIn wsL_law (wsV RL 49 RX5 yX5_make wsX5_make) := goodIn_app (goodIn_of _ (by decide +kernel)) ggL_law_X5_make
set_option maxRecDepth 20000 in
theorem ggL_law_X6_make : GoodIn wsL_law wsX6_make := goodIn_r _ [329, 138, 139, 140, 5, 141, 76, 75, 330, 331, 332, 333, 334, 135, 136, 137, 335, 336, 337, 338, 339, 340, 341, 342, 343, 83, 84, 85, 344, 345, 346, 347, 348, 349, 350, 351, 352, 142, 143, 144, 145, 146, 78, 663, 664, 665, 666, 667, 668, 669, 670, 671, 672, 673, 674] (by decide +kernel) (by decide +kernel)
set_option maxRecDepth 20000 in
theorem gL_law_X6_make : GoodIn wsL_law (wsV RL 52 RX6 yX6_make wsX6_make) := goodIn_app (goodIn_of _ (by decide +kernel)) ggL_law_X6_make
set_option maxRecDepth 20000 in
theorem ggL_law_X5_run : GoodIn wsL_law wsX5_run := goodIn_r _ [356, 29, 21, 16, 357, 358, 359, 360, 361, 28, 362, 363, 364, 365, 366, 367, 368, 369, 370, 371, 372, 373, 374, 375, 376, 377, 378, 379, 70, 380, 381, 382, 383, 384, 385, 386, 387, 388, 389, 390, 391, 392, 92, 2, 93, 393, 394, 395, 396, 397, 94, 95, 96, 20, 97, 55, 98, 99, 100, 101, 102, 103, 104, 105, 106, 107, 108, 109, 110, 15, 111, 34, 36, 112, 113, 114, 115, 38, 116, 117, 118, 119, 39, 120, 121, 122, 41, 123, 124, 46, 125, 47, 126, 127, 48, 128, 49, 129, 130, 398, 399, 400, 401, 402, 403, 404, 405, 170, 406, 192, 205, 218, 281, 282, 283, 284, 285, 277, 278, 279, 280, 286, 287, 288, 289, 290, 42, 291, 292, 293, 294, 295, 296, 297, 298, 299, 300, 301, 302, 303, 304, 305, 306, 307, 308, 309, 310, 311, 312, 313, 314, 315, 316, 317, 318, 319, 320, 321, 322, 323, 324, 260, 261, 262, 263, 172, 173, 174, 91, 175, 176, 177, 178, 256, 257, 258, 259, 407, 658, 659, 660, 661, 662, 688, 689, 690, 691, 692, 693, 694, 683, 684, 685, 675, 676, 677, 678, 679, 680, 681, 682, 695, 696, 697, 698, 699, 700, 701, 702, 703, 704] (by decide +kernel) (by decide +kernel)
set_option maxRecDepth 20000 in
theorem gL_law_X5_run : GoodIn wsL_law (wsV RL 53 RX5 yX5_run wsX5_run) := goodIn_app (goodIn_of _ (by decide +kernel)) ggL_law_X5_run
set_option maxRecDepth 20000 in
theorem ggL_law_X6_run : GoodIn wsL_law wsX6_run := goodIn_r _ [411, 412, 413, 414, 415, 416, 5, 417, 418, 419, 420, 421, 422, 81, 423, 424, 425, 426, 427, 428, 429, 430, 82, 431, 432, 433, 434, 435, 436, 437, 438, 439, 440, 441, 442, 187, 138, 139, 140, 141, 76, 75, 443, 444, 445, 446, 183, 184, 185, 186, 162, 163, 164, 135, 136, 137, 83, 84, 85, 197, 198, 199, 200, 210, 211, 212, 213, 234, 235, 236, 237, 238, 239, 240, 241, 268, 269, 270, 271, 330, 331, 332, 333, 334, 335, 336, 337, 338, 339, 340, 341, 342, 343, 344, 345, 346, 347, 348, 349, 350, 351, 352, 142, 143, 144, 145, 146, 78, 663, 664, 665, 666, 667, 668, 669, 670, 671, 672, 673, 674] (by decide +kernel) (by decide +kernel)
set_option maxRecDepth 20000 in
theorem gL_law_X6_run : GoodIn wsL_law (wsV RL 57 RX6 yX6_run wsX6_run) := goodIn_app (goodIn_of _ (by decide +kernel)) ggL_law_X6_run
set_option maxRecDepth 20000 in
theorem ggL_law_X5_wheel : GoodIn wsL_law wsX5_wheel := goodIn_r _ [450, 16, 170, 246, 171, 192, 205, 218, 255, 172, 173, 2, 174, 91, 92, 93, 451, 296, 297, 15, 298, 299, 300, 36, 301, 452, 453, 454, 41, 455, 46, 456, 316, 457, 458, 459, 460, 461, 462, 463, 464, 127, 49, 130, 465, 466, 467, 468, 48, 658, 659, 660, 661, 662, 675, 676, 677, 678, 679, 680, 681, 682, 695, 696, 697, 698, 699, 700, 701, 702, 703, 704] (by decide +kernel) (by decide +kernel)
set_option maxRecDepth 20000 in
theorem gL_law_X5_wheel : GoodIn wsL_law (wsV RL 58 RX5 yX5_wheel wsX5_wheel) := goodIn_app (goodIn_of _ (by decide +kernel)) ggL_law_X5_wheel
set_option maxRecDepth 20000 in
theorem ggL_law_X6_wheel : GoodIn wsL_law wsX6_wheel := goodIn_r _ [472, 75, 162, 163, 5, 164, 135, 136, 137, 83, 84, 85, 344, 345, 346, 347, 473, 474, 475, 476, 352, 477, 478, 479, 480, 481, 482, 483, 663, 664, 665, 666, 667, 668, 669, 670, 671, 672, 673, 674] (by decide +kernel) (by decide +kernel)
set_option maxRecDepth 20000 in
theorem gL_law_X6_wheel : GoodIn wsL_law (wsV RL 61 RX6 yX6_wheel wsX6_wheel) := goodIn_app (goodIn_of _ (by decide +kernel)) ggL_law_X6_wheel
set_option maxRecDepth 20000 in
theorem ggL_law_X5_valueOf : GoodIn wsL_law wsX5_valueOf := goodIn_r _ [487, 16, 151, 152, 153, 2, 154, 91, 92, 93, 155, 156, 157, 658, 659, 660, 661, 662, 675, 676, 677, 678, 679, 680, 681, 682] (by decide +kernel) (by decide +kernel)
set_option maxRecDepth 20000 in
theorem gL_law_X5_valueOf : GoodIn wsL_law (wsV RL 62 RX5 yX5_valueOf wsX5_valueOf) := goodIn_app (goodIn_of _ (by decide +kernel)) ggL_law_X5_valueOf
set_option maxRecDepth 20000 in
theorem ggL_law_X6_valueOf : GoodIn wsL_law wsX6_valueOf := goodIn_r _ [491, 75, 162, 163, 5, 164, 135, 136, 137, 663, 664, 665, 666, 667, 668, 669, 670, 671, 672, 673, 674] (by decide +kernel) (by decide +kernel)
set_option maxRecDepth 20000 in
theorem gL_law_X6_valueOf : GoodIn wsL_law (wsV RL 65 RX6 yX6_valueOf wsX6_valueOf) := goodIn_app (goodIn_of _ (by decide +kernel)) ggL_law_X6_valueOf
set_option maxRecDepth 20000 in
theorem ggL_law_X5_sample : GoodIn wsL_law wsX5_sample := goodIn_r _ [495, 16, 496, 91, 92, 2, 93, 325, 308, 309, 15, 310, 39, 116, 311, 105, 106, 107, 658, 659, 660, 661, 662, 675, 676, 677, 678, 679, 680, 681, 682] (by decide +kernel) (by decide +kernel)
set_option maxRecDepth 20000 in
theorem gL_law_X5_sample : GoodIn wsL_law (wsV RL 66 RX5 yX5_sample wsX5_sample) := goodIn_app (goodIn_of _ (by decide +kernel)) ggL_law_X5_sample
set_option maxRecDepth 20000 in
theorem ggL_law_X6_sample : GoodIn wsL_law wsX6_sample := goodIn_r _ [500, 75, 135, 136, 5, 137, 663, 664, 665, 666, 667, 668, 669, 670, 671, 672, 673, 674] (by decide +kernel) (by decide +kernel)
set_option maxRecDepth 20000 in
theorem gL_law_X6_sample : GoodIn wsL_law (wsV RL 69 RX6 yX6_sample wsX6_sample) := goodIn_app (goodIn_of _ (by decide +kernel)) ggL_law_X6_sample
set_option maxRecDepth 20000 in
theorem ggL_law_X5_beat : GoodIn wsL_law wsX5_beat := goodIn_r _ [504, 16, 170, 505, 506, 102, 507, 172, 173, 2, 174, 91, 92, 93, 452, 453, 454, 41, 455, 46, 456, 316, 658, 659, 660, 661, 662, 675, 676, 677, 678, 679, 680, 681, 682, 695, 696, 697, 698, 699, 700, 701, 702, 703, 704] (by decide +kernel) (by decide +kernel)
set_option maxRecDepth 20000 in
theorem gL_law_X5_beat : GoodIn wsL_law (wsV RL 70 RX5 yX5_beat wsX5_beat) := goodIn_app (goodIn_of _ (by decide +kernel)) ggL_law_X5_beat
set_option maxRecDepth 20000 in
theorem ggL_law_X6_beat : GoodIn wsL_law wsX6_beat := goodIn_r _ [511, 75, 162, 163, 5, 164, 135, 136, 137, 83, 84, 85, 473, 474, 475, 476, 352, 663, 664, 665, 666, 667, 668, 669, 670, 671, 672, 673, 674] (by decide +kernel) (by decide +kernel)
set_option maxRecDepth 20000 in
theorem gL_law_X6_beat : GoodIn wsL_law (wsV RL 73 RX6 yX6_beat wsX6_beat) := goodIn_app (goodIn_of _ (by decide +kernel)) ggL_law_X6_beat
set_option maxRecDepth 20000 in
theorem ggL_law_X5_count : GoodIn wsL_law wsX5_count := goodIn_r _ [515, 16, 90, 496, 516, 517, 101, 102, 103, 518, 519, 29, 358, 21, 520, 219, 220, 221, 15, 222, 38, 42, 521, 292, 293, 294, 295, 296, 297, 298, 299, 300, 36, 301, 522, 523, 524, 525, 526, 527, 528, 529, 458, 459, 41, 460, 46, 316, 658, 659, 660, 661, 662, 675, 676, 677, 678, 679, 680, 681, 682, 688, 689, 690, 691, 692, 693, 694, 683, 684, 685, 695, 696, 697, 698, 699, 700, 701, 702, 703, 704] (by decide +kernel) (by decide +kernel)
set_option maxRecDepth 20000 in
theorem gL_law_X5_count : GoodIn wsL_law (wsV RL 74 RX5 yX5_count wsX5_count) := goodIn_app (goodIn_of _ (by decide +kernel)) ggL_law_X5_count
set_option maxRecDepth 20000 in
theorem ggL_law_X6_count : GoodIn wsL_law wsX6_count := goodIn_r _ [533, 75, 413, 146, 238, 239, 240, 5, 241, 83, 84, 85, 340, 341, 342, 343, 344, 345, 346, 347, 534, 535, 536, 537, 477, 478, 479, 352, 663, 664, 665, 666, 667, 668, 669, 670, 671, 672, 673, 674] (by decide +kernel) (by decide +kernel)
set_option maxRecDepth 20000 in
theorem gL_law_X6_count : GoodIn wsL_law (wsV RL 77 RX6 yX6_count wsX6_count) := goodIn_app (goodIn_of _ (by decide +kernel)) ggL_law_X6_count
set_option maxRecDepth 20000 in
theorem ggL_law_X5_ifMade : GoodIn wsL_law wsX5_ifMade := goodIn_r _ [541, 17, 16, 542, 527, 102, 528, 517, 101, 103, 516, 91, 92, 2, 93, 543, 109, 110, 15, 111, 34, 36, 112, 113, 114, 115, 38, 116, 117, 118, 119, 39, 120, 121, 122, 41, 123, 124, 46, 125, 47, 126, 127, 48, 128, 49, 129, 130, 544, 287, 288, 289, 290, 42, 291, 292, 293, 294, 295, 296, 297, 298, 299, 300, 301, 302, 303, 304, 305, 306, 307, 308, 309, 310, 311, 105, 106, 107, 312, 313, 314, 315, 316, 317, 318, 319, 320, 321, 322, 323, 324, 260, 261, 262, 263, 325, 658, 659, 660, 661, 662, 675, 676, 677, 678, 679, 680, 681, 682, 695, 696, 697, 698, 699, 700, 701, 702, 703, 704] (by decide +kernel) (by decide +kernel)
set_option maxRecDepth 20000 in
theorem gL_law_X5_ifMade : GoodIn wsL_law (wsV RL 78 RX5 yX5_ifMade wsX5_ifMade) := goodIn_app (goodIn_of _ (by decide +kernel)) ggL_law_X5_ifMade
set_option maxRecDepth 20000 in
theorem ggL_law_X6_ifMade : GoodIn wsL_law wsX6_ifMade := goodIn_r _ [548, 75, 77, 135, 136, 5, 137, 549, 550, 551, 552, 335, 336, 337, 338, 339, 340, 341, 342, 343, 83, 84, 85, 344, 345, 346, 347, 348, 349, 350, 351, 352, 553, 554, 555, 556, 663, 664, 665, 666, 667, 668, 669, 670, 671, 672, 673, 674] (by decide +kernel) (by decide +kernel)
set_option maxRecDepth 20000 in
theorem gL_law_X6_ifMade : GoodIn wsL_law (wsV RL 81 RX6 yX6_ifMade wsX6_ifMade) := goodIn_app (goodIn_of _ (by decide +kernel)) ggL_law_X6_ifMade
set_option maxRecDepth 20000 in
theorem ggL_law_X5_untilClip : GoodIn wsL_law wsX5_untilClip := goodIn_r _ [560, 17, 16, 516, 543, 109, 110, 15, 111, 34, 36, 112, 113, 114, 115, 38, 116, 117, 118, 119, 39, 120, 121, 122, 41, 123, 124, 46, 125, 47, 126, 127, 48, 128, 49, 129, 130, 544, 287, 288, 289, 290, 101, 102, 103, 42, 291, 292, 293, 294, 295, 296, 297, 298, 299, 300, 301, 302, 303, 304, 305, 306, 307, 308, 309, 310, 311, 105, 106, 107, 312, 313, 314, 315, 316, 317, 318, 319, 320, 321, 322, 323, 324, 260, 261, 262, 263, 658, 659, 660, 661, 662, 675, 676, 677, 678, 679, 680, 681, 682, 695, 696, 697, 698, 699, 700, 701, 702, 703, 704] (by decide +kernel) (by decide +kernel)
set_option maxRecDepth 20000 in
theorem gL_law_X5_untilClip : GoodIn wsL_law (wsV RL 82 RX5 yX5_untilClip wsX5_untilClip) := goodIn_app (goodIn_of _ (by decide +kernel)) ggL_law_X5_untilClip
set_option maxRecDepth 20000 in
theorem ggL_law_X6_untilClip : GoodIn wsL_law wsX6_untilClip := goodIn_r _ [564, 75, 77, 549, 550, 551, 5, 552, 335, 336, 337, 338, 339, 340, 341, 342, 343, 83, 84, 85, 344, 345, 346, 347, 348, 349, 350, 351, 352, 553, 554, 555, 556, 663, 664, 665, 666, 667, 668, 669, 670, 671, 672, 673, 674] (by decide +kernel) (by decide +kernel)
set_option maxRecDepth 20000 in
theorem gL_law_X6_untilClip : GoodIn wsL_law (wsV RL 85 RX6 yX6_untilClip wsX6_untilClip) := goodIn_app (goodIn_of _ (by decide +kernel)) ggL_law_X6_untilClip
set_option maxRecDepth 20000 in
theorem ggL_law_X5_bestStep : GoodIn wsL_law wsX5_bestStep := goodIn_r _ [568, 569, 570, 505, 506, 102, 507, 91, 92, 2, 93] (by decide +kernel) (by decide +kernel)
set_option maxRecDepth 20000 in
theorem gL_law_X5_bestStep : GoodIn wsL_law (wsV RL 86 RX5 yX5_bestStep wsX5_bestStep) := goodIn_app (goodIn_of _ (by decide +kernel)) ggL_law_X5_bestStep
set_option maxRecDepth 20000 in
theorem ggL_law_X6_bestStep : GoodIn wsL_law wsX6_bestStep := goodIn_r _ [574, 352, 575, 476, 135, 136, 5, 137] (by decide +kernel) (by decide +kernel)
set_option maxRecDepth 20000 in
theorem gL_law_X6_bestStep : GoodIn wsL_law (wsV RL 89 RX6 yX6_bestStep wsX6_bestStep) := goodIn_app (goodIn_of _ (by decide +kernel)) ggL_law_X6_bestStep
set_option maxRecDepth 20000 in
theorem ggL_law_X5_untilRound : GoodIn wsL_law wsX5_untilRound := goodIn_r _ [579, 17, 16, 170, 172, 173, 2, 174, 91, 92, 93, 543, 109, 110, 15, 111, 34, 36, 112, 113, 114, 115, 38, 116, 117, 118, 119, 39, 120, 121, 122, 41, 123, 124, 46, 125, 47, 126, 127, 48, 128, 49, 129, 130, 580, 581, 582, 583, 584, 585, 586, 313, 314, 315, 316, 317, 318, 319, 320, 321, 322, 323, 324, 260, 261, 262, 263, 658, 659, 660, 661, 662, 675, 676, 677, 678, 679, 680, 681, 682, 695, 696, 697, 698, 699, 700, 701, 702, 703, 704] (by decide +kernel) (by decide +kernel)
set_option maxRecDepth 20000 in
theorem gL_law_X5_untilRound : GoodIn wsL_law (wsV RL 90 RX5 yX5_untilRound wsX5_untilRound) := goodIn_app (goodIn_of _ (by decide +kernel)) ggL_law_X5_untilRound
set_option maxRecDepth 20000 in
theorem ggL_law_X6_untilRound : GoodIn wsL_law wsX6_untilRound := goodIn_r _ [590, 591, 75, 162, 163, 5, 164, 135, 136, 137, 549, 550, 551, 552, 77, 83, 84, 85, 348, 349, 350, 351, 352, 553, 554, 555, 556, 663, 664, 665, 666, 667, 668, 669, 670, 671, 672, 673, 674] (by decide +kernel) (by decide +kernel)
set_option maxRecDepth 20000 in
theorem gL_law_X6_untilRound : GoodIn wsL_law (wsV RL 93 RX6 yX6_untilRound wsX6_untilRound) := goodIn_app (goodIn_of _ (by decide +kernel)) ggL_law_X6_untilRound
set_option maxRecDepth 20000 in
theorem ggL_law_X5_put : GoodIn wsL_law wsX5_put := goodIn_r _ [595, 29, 358, 596, 597, 598, 2, 599, 91, 92, 93, 600, 601, 602, 28, 603, 364, 70, 658, 659, 660, 661, 662, 688, 689, 690, 691, 692, 693, 694] (by decide +kernel) (by decide +kernel)
set_option maxRecDepth 20000 in
theorem gL_law_X5_put : GoodIn wsL_law (wsV RL 96 RX5 yX5_put wsX5_put) := goodIn_app (goodIn_of _ (by decide +kernel)) ggL_law_X5_put
set_option maxRecDepth 20000 in
theorem ggL_law_X6_put : GoodIn wsL_law wsX6_put := goodIn_r _ [607, 608, 609, 610, 413, 82, 663, 664, 665, 666, 667, 668, 669, 670, 671, 672, 673, 674] (by decide +kernel) (by decide +kernel)
set_option maxRecDepth 20000 in
theorem gL_law_X6_put : GoodIn wsL_law (wsV RL 100 RX6 yX6_put wsX6_put) := goodIn_app (goodIn_of _ (by decide +kernel)) ggL_law_X6_put
set_option maxRecDepth 20000 in
theorem ggL_law_X5_wipe : GoodIn wsL_law wsX5_wipe := goodIn_r _ [614, 29, 358, 658, 659, 660, 661, 662, 688, 689, 690, 691, 692, 693, 694] (by decide +kernel) (by decide +kernel)
set_option maxRecDepth 20000 in
theorem gL_law_X5_wipe : GoodIn wsL_law (wsV RL 101 RX5 yX5_wipe wsX5_wipe) := goodIn_app (goodIn_of _ (by decide +kernel)) ggL_law_X5_wipe
set_option maxRecDepth 20000 in
theorem ggL_law_X6_wipe : GoodIn wsL_law wsX6_wipe := goodIn_r _ [618, 413, 663, 664, 665, 666, 667, 668, 669, 670, 671, 672, 673, 674] (by decide +kernel) (by decide +kernel)
set_option maxRecDepth 20000 in
theorem gL_law_X6_wipe : GoodIn wsL_law (wsV RL 104 RX6 yX6_wipe wsX6_wipe) := goodIn_app (goodIn_of _ (by decide +kernel)) ggL_law_X6_wipe
set_option maxRecDepth 20000 in
theorem ggL_law_X5_fault : GoodIn wsL_law wsX5_fault := goodIn_r _ [622, 29, 359, 360, 361, 28, 362, 363, 364, 365, 366, 367, 368, 369, 370, 371, 372, 373, 374, 375, 376, 377, 378, 379, 70, 380, 381, 382, 383, 384, 385, 386, 387, 388, 389, 390, 391, 392, 92, 2, 93, 393, 394, 395, 396, 397, 658, 659, 660, 661, 662, 688, 689, 690, 691, 692, 693, 694] (by decide +kernel) (by decide +kernel)
set_option maxRecDepth 20000 in
theorem gL_law_X5_fault : GoodIn wsL_law (wsV RL 105 RX5 yX5_fault wsX5_fault) := goodIn_app (goodIn_of _ (by decide +kernel)) ggL_law_X5_fault
set_option maxRecDepth 20000 in
theorem ggL_law_X6_fault : GoodIn wsL_law wsX6_fault := goodIn_r _ [626, 414, 415, 416, 5, 417, 418, 412, 413, 419, 420, 421, 422, 81, 423, 424, 425, 426, 427, 428, 429, 430, 82, 431, 432, 433, 434, 435, 436, 437, 438, 439, 440, 441, 442, 187, 663, 664, 665, 666, 667, 668, 669, 670, 671, 672, 673, 674] (by decide +kernel) (by decide +kernel)
set_option maxRecDepth 20000 in
theorem gL_law_X6_fault : GoodIn wsL_law (wsV RL 108 RX6 yX6_fault wsX6_fault) := goodIn_app (goodIn_of _ (by decide +kernel)) ggL_law_X6_fault
set_option maxRecDepth 20000 in
theorem ggL_law_X5_undo : GoodIn wsL_law wsX5_undo := goodIn_r _ [630, 21, 520, 16, 631, 632, 633, 20, 634, 98, 99, 635, 527, 102, 528, 55, 104, 105, 106, 107, 108, 109, 110, 15, 111, 34, 36, 112, 113, 114, 115, 38, 116, 117, 118, 119, 39, 120, 121, 122, 41, 123, 124, 46, 125, 47, 126, 127, 48, 128, 49, 129, 130, 658, 659, 660, 661, 662, 683, 684, 685, 675, 676, 677, 678, 679, 680, 681, 682, 695, 696, 697, 698, 699, 700, 701, 702, 703, 704] (by decide +kernel) (by decide +kernel)
set_option maxRecDepth 20000 in
theorem gL_law_X5_undo : GoodIn wsL_law (wsV RL 109 RX5 yX5_undo wsX5_undo) := goodIn_app (goodIn_of _ (by decide +kernel)) ggL_law_X5_undo
set_option maxRecDepth 20000 in
theorem ggL_law_X6_undo : GoodIn wsL_law wsX6_undo := goodIn_r _ [639, 146, 75, 78, 663, 664, 665, 666, 667, 668, 669, 670, 671, 672, 673, 674] (by decide +kernel) (by decide +kernel)
set_option maxRecDepth 20000 in
theorem gL_law_X6_undo : GoodIn wsL_law (wsV RL 112 RX6 yX6_undo wsX6_undo) := goodIn_app (goodIn_of _ (by decide +kernel)) ggL_law_X6_undo
set_option maxRecDepth 20000 in
theorem ggL_law_X5_save : GoodIn wsL_law wsX5_save := goodIn_r _ [643, 25, 644, 16, 645, 496, 91, 92, 2, 93, 543, 109, 110, 15, 111, 34, 36, 112, 113, 114, 115, 38, 116, 117, 118, 119, 39, 120, 121, 122, 41, 123, 124, 46, 125, 47, 126, 127, 48, 128, 49, 129, 130, 658, 659, 660, 661, 662, 686, 687, 675, 676, 677, 678, 679, 680, 681, 682, 695, 696, 697, 698, 699, 700, 701, 702, 703, 704] (by decide +kernel) (by decide +kernel)
set_option maxRecDepth 20000 in
theorem gL_law_X5_save : GoodIn wsL_law (wsV RL 113 RX5 yX5_save wsX5_save) := goodIn_app (goodIn_of _ (by decide +kernel)) ggL_law_X5_save
set_option maxRecDepth 20000 in
theorem ggL_law_X6_save : GoodIn wsL_law wsX6_save := goodIn_r _ [649, 79, 75, 80, 135, 136, 5, 137, 663, 664, 665, 666, 667, 668, 669, 670, 671, 672, 673, 674] (by decide +kernel) (by decide +kernel)
set_option maxRecDepth 20000 in
theorem gL_law_X6_save : GoodIn wsL_law (wsV RL 116 RX6 yX6_save wsX6_save) := goodIn_app (goodIn_of _ (by decide +kernel)) ggL_law_X6_save
set_option maxRecDepth 20000 in
theorem ggL_law_X5_restore : GoodIn wsL_law wsX5_restore := goodIn_r _ [653, 25, 645, 21, 16, 644, 496, 91, 92, 2, 93, 94, 95, 96, 20, 97, 55, 98, 99, 100, 101, 102, 103, 104, 105, 106, 107, 108, 109, 110, 15, 111, 34, 36, 112, 113, 114, 115, 38, 116, 117, 118, 119, 39, 120, 121, 122, 41, 123, 124, 46, 125, 47, 126, 127, 48, 128, 49, 129, 130, 543, 658, 659, 660, 661, 662, 686, 687, 675, 676, 677, 678, 679, 680, 681, 682, 683, 684, 685, 695, 696, 697, 698, 699, 700, 701, 702, 703, 704] (by decide +kernel) (by decide +kernel)
set_option maxRecDepth 20000 in
theorem gL_law_X5_restore : GoodIn wsL_law (wsV RL 117 RX5 yX5_restore wsX5_restore) := goodIn_app (goodIn_of _ (by decide +kernel)) ggL_law_X5_restore
set_option maxRecDepth 20000 in
theorem ggL_law_X6_restore : GoodIn wsL_law wsX6_restore := goodIn_r _ [657, 80, 75, 79, 135, 136, 5, 137, 138, 139, 140, 141, 76, 142, 143, 144, 145, 146, 78, 663, 664, 665, 666, 667, 668, 669, 670, 671, 672, 673, 674] (by decide +kernel) (by decide +kernel)
set_option maxRecDepth 20000 in
theorem gL_law_X6_restore : GoodIn wsL_law (wsV RL 120 RX6 yX6_restore wsX6_restore) := goodIn_app (goodIn_of _ (by decide +kernel)) ggL_law_X6_restore
