set_option maxRecDepth 20000 in
theorem ggL_law_X5_init : GoodIn wsL_law wsX5_init := goodIn_r _ [9, 10, 11, 12, 13, 14, 15, 16, 17, 18, 19, 20, 21, 22, 23, 24, 25, 26, 27, 28, 29, 30, 31, 32, 33, 34, 35, 36, 37, 38, 39, 40, 41, 42, 43, 44, 45, 46, 47, 48, 49, 50, 51, 52, 53, 54, 55, 56, 57, 58, 59, 60, 61, 62, 63, 64, 65, 66, 67, 68, 69, 70, 674, 675, 676, 677, 678, 679, 680, 681, 657, 658, 659, 660, 661, 682, 683, 684, 685, 686, 687, 688, 689, 690, 691, 692, 693, 694, 695, 696, 697, 698, 699, 700, 701, 702, 703] (by decide +kernel) (by decide +kernel)
set_option maxRecDepth 20000 in
theorem gL_law_X5_init : GoodIn wsL_law (wsX5_init) := ggL_law_X5_init
set_option maxRecDepth 20000 in
theorem ggL_law_X6_init : GoodIn wsL_law wsX6_init := goodIn_r _ [73, 74, 11, 12, 35, 75, 76, 77, 78, 79, 63, 80, 81, 69, 82, 83, 84, 5, 85, 662, 663, 664, 665, 666, 667, 668, 669, 670, 671, 672, 673] (by decide +kernel) (by decide +kernel)
set_option maxRecDepth 20000 in
theorem gL_law_X6_init : GoodIn wsL_law (wsX6_init) := ggL_law_X6_init
set_option maxRecDepth 20000 in
theorem ggL_law_X5_clip : GoodIn wsL_law wsX5_clip := goodIn_r _ [89, 21, 16, 90, 91, 92, 2, 93, 94, 95, 96, 20, 97, 55, 98, 99, 100, 101, 102, 103, 104, 105, 106, 15, 107, 34, 36, 108, 109, 110, 111, 38, 112, 113, 114, 115, 39, 116, 117, 118, 41, 119, 120, 46, 121, 47, 122, 123, 48, 124, 49, 125, 126, 657, 658, 659, 660, 661, 674, 675, 676, 677, 678, 679, 680, 681, 682, 683, 684, 694, 695, 696, 697, 698, 699, 700, 701, 702, 703] (by decide +kernel) (by decide +kernel)
set_option maxRecDepth 20000 in
theorem gL_law_X5_clip : GoodIn wsL_law (wsV RL 13 RX5 yX5_clip wsX5_clip) := goodIn_app (goodIn_of _ (by decide +kernel)) ggL_law_X5_clip
set_option maxRecDepth 20000 in
theorem ggL_law_X6_clip : GoodIn wsL_law wsX6_clip := goodIn_r _ [130, 75, 131, 132, 5, 133, 134, 135, 136, 137, 76, 138, 139, 140, 141, 142, 78, 662, 663, 664, 665, 666, 667, 668, 669, 670, 671, 672, 673] (by decide +kernel) (by decide +kernel)
set_option maxRecDepth 20000 in
theorem gL_law_X6_clip : GoodIn wsL_law (wsV RL 17 RX6 yX6_clip wsX6_clip) := goodIn_app (goodIn_of _ (by decide +kernel)) ggL_law_X6_clip
set_option maxRecDepth 20000 in
theorem ggL_law_X5_fill : GoodIn wsL_law wsX5_fill := goodIn_r _ [146, 21, 16, 147, 148, 149, 2, 150, 91, 92, 93, 151, 152, 153, 94, 95, 96, 20, 97, 55, 98, 99, 100, 101, 102, 103, 104, 105, 106, 15, 107, 34, 36, 108, 109, 110, 111, 38, 112, 113, 114, 115, 39, 116, 117, 118, 41, 119, 120, 46, 121, 47, 122, 123, 48, 124, 49, 125, 126, 657, 658, 659, 660, 661, 674, 675, 676, 677, 678, 679, 680, 681, 682, 683, 684, 694, 695, 696, 697, 698, 699, 700, 701, 702, 703] (by decide +kernel) (by decide +kernel)
set_option maxRecDepth 20000 in
theorem gL_law_X5_fill : GoodIn wsL_law (wsV RL 18 RX5 yX5_fill wsX5_fill) := goodIn_app (goodIn_of _ (by decide +kernel)) ggL_law_X5_fill
set_option maxRecDepth 20000 in
theorem ggL_law_X6_fill : GoodIn wsL_law wsX6_fill := goodIn_r _ [157, 75, 158, 159, 5, 160, 131, 132, 133, 134, 135, 136, 137, 76, 138, 139, 140, 141, 142, 78, 662, 663, 664, 665, 666, 667, 668, 669, 670, 671, 672, 673] (by decide +kernel) (by decide +kernel)
set_option maxRecDepth 20000 in
theorem gL_law_X6_fill : GoodIn wsL_law (wsV RL 22 RX6 yX6_fill wsX6_fill) := goodIn_app (goodIn_of _ (by decide +kernel)) ggL_law_X6_fill
set_option maxRecDepth 20000 in
theorem ggL_law_X5_step : GoodIn wsL_law wsX5_step := goodIn_r _ [164, 165, 21, 16, 166, 167, 168, 169, 2, 170, 91, 92, 93, 94, 95, 96, 20, 97, 55, 98, 99, 100, 101, 102, 103, 104, 105, 106, 15, 107, 34, 36, 108, 109, 110, 111, 38, 112, 113, 114, 115, 39, 116, 117, 118, 41, 119, 120, 46, 121, 47, 122, 123, 48, 124, 49, 125, 126, 171, 172, 173, 174, 657, 658, 659, 660, 661, 674, 675, 676, 677, 678, 679, 680, 681, 694, 695, 696, 697, 698, 699, 700, 701, 702, 703, 682, 683, 684] (by decide +kernel) (by decide +kernel)
set_option maxRecDepth 20000 in
theorem gL_law_X5_step : GoodIn wsL_law (wsV RL 23 RX5 yX5_step wsX5_step) := goodIn_app (goodIn_of _ (by decide +kernel)) ggL_law_X5_step
set_option maxRecDepth 20000 in
theorem ggL_law_X6_step : GoodIn wsL_law wsX6_step := goodIn_r _ [178, 134, 135, 136, 5, 137, 76, 75, 179, 180, 181, 182, 183, 158, 159, 160, 131, 132, 133, 83, 84, 85, 138, 139, 140, 141, 142, 78, 662, 663, 664, 665, 666, 667, 668, 669, 670, 671, 672, 673] (by decide +kernel) (by decide +kernel)
set_option maxRecDepth 20000 in
theorem gL_law_X6_step : GoodIn wsL_law (wsV RL 27 RX6 yX6_step wsX6_step) := goodIn_app (goodIn_of _ (by decide +kernel)) ggL_law_X6_step
set_option maxRecDepth 20000 in
theorem ggL_law_X5_table : GoodIn wsL_law wsX5_table := goodIn_r _ [187, 21, 16, 166, 188, 168, 169, 2, 170, 91, 92, 93, 148, 149, 150, 94, 95, 96, 20, 97, 55, 98, 99, 100, 101, 102, 103, 104, 105, 106, 15, 107, 34, 36, 108, 109, 110, 111, 38, 112, 113, 114, 115, 39, 116, 117, 118, 41, 119, 120, 46, 121, 47, 122, 123, 48, 124, 49, 125, 126, 657, 658, 659, 660, 661, 674, 675, 676, 677, 678, 679, 680, 681, 694, 695, 696, 697, 698, 699, 700, 701, 702, 703, 682, 683, 684] (by decide +kernel) (by decide +kernel)
set_option maxRecDepth 20000 in
theorem gL_law_X5_table : GoodIn wsL_law (wsV RL 28 RX5 yX5_table wsX5_table) := goodIn_app (goodIn_of _ (by decide +kernel)) ggL_law_X5_table
set_option maxRecDepth 20000 in
theorem ggL_law_X6_table : GoodIn wsL_law wsX6_table := goodIn_r _ [192, 134, 135, 136, 5, 137, 76, 75, 193, 194, 195, 196, 158, 159, 160, 131, 132, 133, 83, 84, 85, 138, 139, 140, 141, 142, 78, 662, 663, 664, 665, 666, 667, 668, 669, 670, 671, 672, 673] (by decide +kernel) (by decide +kernel)
set_option maxRecDepth 20000 in
theorem gL_law_X6_table : GoodIn wsL_law (wsV RL 31 RX6 yX6_table wsX6_table) := goodIn_app (goodIn_of _ (by decide +kernel)) ggL_law_X6_table
set_option maxRecDepth 20000 in
theorem ggL_law_X5_volume : GoodIn wsL_law wsX5_volume := goodIn_r _ [200, 21, 16, 166, 201, 168, 169, 2, 170, 91, 92, 93, 94, 95, 96, 20, 97, 55, 98, 99, 100, 101, 102, 103, 104, 105, 106, 15, 107, 34, 36, 108, 109, 110, 111, 38, 112, 113, 114, 115, 39, 116, 117, 118, 41, 119, 120, 46, 121, 47, 122, 123, 48, 124, 49, 125, 126, 657, 658, 659, 660, 661, 674, 675, 676, 677, 678, 679, 680, 681, 694, 695, 696, 697, 698, 699, 700, 701, 702, 703, 682, 683, 684] (by decide +kernel) (by decide +kernel)
set_option maxRecDepth 20000 in
theorem gL_law_X5_volume : GoodIn wsL_law (wsV RL 32 RX5 yX5_volume wsX5_volume) := goodIn_app (goodIn_of _ (by decide +kernel)) ggL_law_X5_volume
set_option maxRecDepth 20000 in
theorem ggL_law_X6_volume : GoodIn wsL_law wsX6_volume := goodIn_r _ [205, 134, 135, 136, 5, 137, 76, 75, 206, 207, 208, 209, 158, 159, 160, 131, 132, 133, 83, 84, 85, 138, 139, 140, 141, 142, 78, 662, 663, 664, 665, 666, 667, 668, 669, 670, 671, 672, 673] (by decide +kernel) (by decide +kernel)
set_option maxRecDepth 20000 in
theorem gL_law_X6_volume : GoodIn wsL_law (wsV RL 35 RX6 yX6_volume wsX6_volume) := goodIn_app (goodIn_of _ (by decide +kernel)) ggL_law_X6_volume
set_option maxRecDepth 20000 in
theorem ggL_law_X5_turn : GoodIn wsL_law wsX5_turn := goodIn_r _ [213, 16, 166, 214, 21, 168, 169, 2, 170, 91, 92, 93, 94, 95, 96, 20, 97, 55, 98, 99, 100, 101, 102, 103, 104, 105, 106, 15, 107, 34, 36, 108, 109, 110, 111, 38, 112, 113, 114, 115, 39, 116, 117, 118, 41, 119, 120, 46, 121, 47, 122, 123, 48, 124, 49, 125, 126, 215, 216, 217, 218, 42, 219, 220, 221, 222, 223, 224, 225, 657, 658, 659, 660, 661, 674, 675, 676, 677, 678, 679, 680, 681, 694, 695, 696, 697, 698, 699, 700, 701, 702, 703, 682, 683, 684] (by decide +kernel) (by decide +kernel)
set_option maxRecDepth 20000 in
theorem gL_law_X5_turn : GoodIn wsL_law (wsV RL 36 RX5 yX5_turn wsX5_turn) := goodIn_app (goodIn_of _ (by decide +kernel)) ggL_law_X5_turn
set_option maxRecDepth 20000 in
theorem ggL_law_X6_turn : GoodIn wsL_law wsX6_turn := goodIn_r _ [229, 134, 135, 136, 5, 137, 76, 75, 230, 231, 232, 233, 158, 159, 160, 131, 132, 133, 83, 84, 85, 234, 235, 236, 237, 138, 139, 140, 141, 142, 78, 662, 663, 664, 665, 666, 667, 668, 669, 670, 671, 672, 673] (by decide +kernel) (by decide +kernel)
set_option maxRecDepth 20000 in
theorem gL_law_X6_turn : GoodIn wsL_law (wsV RL 40 RX6 yX6_turn wsX6_turn) := goodIn_app (goodIn_of _ (by decide +kernel)) ggL_law_X6_turn
set_option maxRecDepth 20000 in
theorem ggL_law_X5_phase : GoodIn wsL_law wsX5_phase := goodIn_r _ [241, 165, 21, 16, 166, 242, 168, 169, 2, 170, 91, 92, 93, 94, 95, 96, 20, 97, 55, 98, 99, 100, 101, 102, 103, 104, 105, 106, 15, 107, 34, 36, 108, 109, 110, 111, 38, 112, 113, 114, 115, 39, 116, 117, 118, 41, 119, 120, 46, 121, 47, 122, 123, 48, 124, 49, 125, 126, 657, 658, 659, 660, 661, 674, 675, 676, 677, 678, 679, 680, 681, 694, 695, 696, 697, 698, 699, 700, 701, 702, 703, 682, 683, 684] (by decide +kernel) (by decide +kernel)
set_option maxRecDepth 20000 in
theorem gL_law_X5_phase : GoodIn wsL_law (wsV RL 41 RX5 yX5_phase wsX5_phase) := goodIn_app (goodIn_of _ (by decide +kernel)) ggL_law_X5_phase
set_option maxRecDepth 20000 in
theorem ggL_law_X6_phase : GoodIn wsL_law wsX6_phase := goodIn_r _ [246, 183, 75, 158, 159, 5, 160, 131, 132, 133, 134, 135, 136, 137, 76, 83, 84, 85, 138, 139, 140, 141, 142, 78, 662, 663, 664, 665, 666, 667, 668, 669, 670, 671, 672, 673] (by decide +kernel) (by decide +kernel)
set_option maxRecDepth 20000 in
theorem gL_law_X6_phase : GoodIn wsL_law (wsV RL 44 RX6 yX6_phase wsX6_phase) := goodIn_app (goodIn_of _ (by decide +kernel)) ggL_law_X6_phase
set_option maxRecDepth 20000 in
theorem ggL_law_X5_sweep : GoodIn wsL_law wsX5_sweep := goodIn_r _ [250, 165, 16, 166, 251, 21, 168, 169, 2, 170, 91, 92, 93, 94, 95, 96, 20, 97, 55, 98, 99, 100, 101, 102, 103, 104, 105, 106, 15, 107, 34, 36, 108, 109, 110, 111, 38, 112, 113, 114, 115, 39, 116, 117, 118, 41, 119, 120, 46, 121, 47, 122, 123, 48, 124, 49, 125, 126, 252, 253, 254, 255, 256, 257, 258, 259, 657, 658, 659, 660, 661, 674, 675, 676, 677, 678, 679, 680, 681, 694, 695, 696, 697, 698, 699, 700, 701, 702, 703, 682, 683, 684] (by decide +kernel) (by decide +kernel)
set_option maxRecDepth 20000 in
theorem gL_law_X5_sweep : GoodIn wsL_law (wsV RL 45 RX5 yX5_sweep wsX5_sweep) := goodIn_app (goodIn_of _ (by decide +kernel)) ggL_law_X5_sweep
set_option maxRecDepth 20000 in
theorem ggL_law_X6_sweep : GoodIn wsL_law wsX6_sweep := goodIn_r _ [263, 134, 135, 136, 5, 137, 76, 75, 264, 265, 266, 267, 183, 158, 159, 160, 131, 132, 133, 83, 84, 85, 138, 139, 140, 141, 142, 78, 662, 663, 664, 665, 666, 667, 668, 669, 670, 671, 672, 673] (by decide +kernel) (by decide +kernel)
set_option maxRecDepth 20000 in
theorem gL_law_X6_sweep : GoodIn wsL_law (wsV RL 48 RX6 yX6_sweep wsX6_sweep) := goodIn_app (goodIn_of _ (by decide +kernel)) ggL_law_X6_sweep
set_option maxRecDepth 20000 in
theorem ggL_law_X5_make : GoodIn wsL_law wsX5_make := goodIn_r _ [271, 16, 21, 91, 92, 2, 93, 272, 273, 274, 15, 275, 276, 112, 94, 95, 96, 20, 97, 55, 98, 99, 100, 101, 102, 103, 104, 105, 106, 107, 34, 36, 108, 109, 110, 111, 38, 113, 114, 115, 39, 116, 117, 118, 41, 119, 120, 46, 121, 47, 122, 123, 48, 124, 49, 125, 126, 277, 278, 279, 280, 281, 282, 283, 284, 285, 286, 42, 287, 288, 289, 290, 291, 292, 293, 294, 295, 296, 297, 298, 299, 300, 301, 302, 303, 304, 305, 306, 307, 308, 309, 310, 311, 312, 313, 314, 315, 316, 317, 318, 319, 320, 321, 322, 323, 256, 257, 258, 259, 324, 657, 658, 659, 660, 661, 674, 675, 676, 677, 678, 679, 680, 681, 682, 683, 684, 694, 695, 696, 697, 698, 699, 700, 701, 702, 703] (by decide +kernel) (by decide +kernel)
set_option maxRecDepth 20000 in
theorem gL_law_X5_make : GoodIn wsL_law (wsV RL 49 RX5 yX5_make wsX5_make) := goodIn_app (goodIn_of _ (by decide +kernel)) ggL_law_X5_make
set_option maxRecDepth 20000 in
theorem ggL_law_X6_make : GoodIn wsL_law wsX6_make := goodIn_r _ [328, 134, 135, 136, 5, 137, 76, 75, 329, 330, 331, 332, 333, 131, 132, 133, 334, 335, 336, 337, 338, 339, 340, 341, 342, 83, 84, 85, 343, 344, 345, 346, 347, 348, 349, 350, 351, 138, 139, 140, 141, 142, 78, 662, 663, 664, 665, 666, 667, 668, 669, 670, 671, 672, 673] (by decide +kernel) (by decide +kernel)
set_option maxRecDepth 20000 in
theorem gL_law_X6_make : GoodIn wsL_law (wsV RL 52 RX6 yX6_make wsX6_make) := goodIn_app (goodIn_of _ (by decide +kernel)) ggL_law_X6_make
set_option maxRecDepth 20000 in
theorem ggL_law_X5_run : GoodIn wsL_law wsX5_run := goodIn_r _ [355, 29, 21, 16, 356, 357, 358, 359, 360, 28, 361, 362, 363, 364, 365, 366, 367, 368, 369, 370, 371, 372, 373, 374, 375, 376, 377, 378, 70, 379, 380, 381, 382, 383, 384, 385, 386, 387, 388, 389, 390, 391, 92, 2, 93, 392, 393, 394, 395, 396, 94, 95, 96, 20, 97, 55, 98, 99, 100, 101, 102, 103, 104, 105, 106, 15, 107, 34, 36, 108, 109, 110, 111, 38, 112, 113, 114, 115, 39, 116, 117, 118, 41, 119, 120, 46, 121, 47, 122, 123, 48, 124, 49, 125, 126, 397, 398, 399, 400, 401, 402, 403, 404, 166, 405, 188, 201, 214, 277, 278, 279, 280, 281, 273, 274, 275, 276, 282, 283, 284, 285, 286, 42, 287, 288, 289, 290, 291, 292, 293, 294, 295, 296, 297, 298, 299, 300, 301, 302, 303, 304, 305, 306, 307, 308, 309, 310, 311, 312, 313, 314, 315, 316, 317, 318, 319, 320, 321, 322, 323, 256, 257, 258, 259, 168, 169, 170, 91, 171, 172, 173, 174, 252, 253, 254, 255, 406, 657, 658, 659, 660, 661, 687, 688, 689, 690, 691, 692, 693, 682, 683, 684, 674, 675, 676, 677, 678, 679, 680, 681, 694, 695, 696, 697, 698, 699, 700, 701, 702, 703] (by decide +kernel) (by decide +kernel)
set_option maxRecDepth 20000 in
theorem gL_law_X5_run : GoodIn wsL_law (wsV RL 53 RX5 yX5_run wsX5_run) := goodIn_app (goodIn_of _ (by decide +kernel)) ggL_law_X5_run
set_option maxRecDepth 20000 in
theorem ggL_law_X6_run : GoodIn wsL_law wsX6_run := goodIn_r _ [410, 411, 412, 413, 414, 415, 5, 416, 417, 418, 419, 420, 421, 81, 422, 423, 424, 425, 426, 427, 428, 429, 82, 430, 431, 432, 433, 434, 435, 436, 437, 438, 439, 440, 441, 183, 134, 135, 136, 137, 76, 75, 442, 443, 444, 445, 179, 180, 181, 182, 158, 159, 160, 131, 132, 133, 83, 84, 85, 193, 194, 195, 196, 206, 207, 208, 209, 230, 231, 232, 233, 234, 235, 236, 237, 264, 265, 266, 267, 329, 330, 331, 332, 333, 334, 335, 336, 337, 338, 339, 340, 341, 342, 343, 344, 345, 346, 347, 348, 349, 350, 351, 138, 139, 140, 141, 142, 78, 662, 663, 664, 665, 666, 667, 668, 669, 670, 671, 672, 673] (by decide +kernel) (by decide +kernel)
set_option maxRecDepth 20000 in
theorem gL_law_X6_run : GoodIn wsL_law (wsV RL 57 RX6 yX6_run wsX6_run) := goodIn_app (goodIn_of _ (by decide +kernel)) ggL_law_X6_run
set_option maxRecDepth 20000 in
theorem ggL_law_X5_wheel : GoodIn wsL_law wsX5_wheel := goodIn_r _ [449, 16, 166, 242, 167, 188, 201, 214, 251, 168, 169, 2, 170, 91, 92, 93, 450, 292, 293, 15, 294, 295, 296, 36, 297, 451, 452, 453, 41, 454, 46, 455, 315, 456, 457, 458, 459, 460, 461, 462, 463, 123, 49, 126, 464, 465, 466, 467, 48, 657, 658, 659, 660, 661, 674, 675, 676, 677, 678, 679, 680, 681, 694, 695, 696, 697, 698, 699, 700, 701, 702, 703] (by decide +kernel) (by decide +kernel)
set_option maxRecDepth 20000 in
theorem gL_law_X5_wheel : GoodIn wsL_law (wsV RL 58 RX5 yX5_wheel wsX5_wheel) := goodIn_app (goodIn_of _ (by decide +kernel)) ggL_law_X5_wheel
set_option maxRecDepth 20000 in
theorem ggL_law_X6_wheel : GoodIn wsL_law wsX6_wheel := goodIn_r _ [471, 75, 158, 159, 5, 160, 131, 132, 133, 83, 84, 85, 343, 344, 345, 346, 472, 473, 474, 475, 351, 476, 477, 478, 479, 480, 481, 482, 662, 663, 664, 665, 666, 667, 668, 669, 670, 671, 672, 673] (by decide +kernel) (by decide +kernel)
set_option maxRecDepth 20000 in
theorem gL_law_X6_wheel : GoodIn wsL_law (wsV RL 61 RX6 yX6_wheel wsX6_wheel) := goodIn_app (goodIn_of _ (by decide +kernel)) ggL_law_X6_wheel
set_option maxRecDepth 20000 in
theorem ggL_law_X5_valueOf : GoodIn wsL_law wsX5_valueOf := goodIn_r _ [486, 16, 147, 148, 149, 2, 150, 91, 92, 93, 151, 152, 153, 657, 658, 659, 660, 661, 674, 675, 676, 677, 678, 679, 680, 681] (by decide +kernel) (by decide +kernel)
set_option maxRecDepth 20000 in
theorem gL_law_X5_valueOf : GoodIn wsL_law (wsV RL 62 RX5 yX5_valueOf wsX5_valueOf) := goodIn_app (goodIn_of _ (by decide +kernel)) ggL_law_X5_valueOf
set_option maxRecDepth 20000 in
theorem ggL_law_X6_valueOf : GoodIn wsL_law wsX6_valueOf := goodIn_r _ [490, 75, 158, 159, 5, 160, 131, 132, 133, 662, 663, 664, 665, 666, 667, 668, 669, 670, 671, 672, 673] (by decide +kernel) (by decide +kernel)
set_option maxRecDepth 20000 in
theorem gL_law_X6_valueOf : GoodIn wsL_law (wsV RL 65 RX6 yX6_valueOf wsX6_valueOf) := goodIn_app (goodIn_of _ (by decide +kernel)) ggL_law_X6_valueOf
set_option maxRecDepth 20000 in
theorem ggL_law_X5_sample : GoodIn wsL_law wsX5_sample := goodIn_r _ [494, 16, 495, 91, 92, 2, 93, 324, 304, 305, 15, 306, 39, 112, 307, 308, 309, 310, 657, 658, 659, 660, 661, 674, 675, 676, 677, 678, 679, 680, 681] (by decide +kernel) (by decide +kernel)
set_option maxRecDepth 20000 in
theorem gL_law_X5_sample : GoodIn wsL_law (wsV RL 66 RX5 yX5_sample wsX5_sample) := goodIn_app (goodIn_of _ (by decide +kernel)) ggL_law_X5_sample
set_option maxRecDepth 20000 in
theorem ggL_law_X6_sample : GoodIn wsL_law wsX6_sample := goodIn_r _ [499, 75, 131, 132, 5, 133, 662, 663, 664, 665, 666, 667, 668, 669, 670, 671, 672, 673] (by decide +kernel) (by decide +kernel)
set_option maxRecDepth 20000 in
theorem gL_law_X6_sample : GoodIn wsL_law (wsV RL 69 RX6 yX6_sample wsX6_sample) := goodIn_app (goodIn_of _ (by decide +kernel)) ggL_law_X6_sample
set_option maxRecDepth 20000 in
theorem ggL_law_X5_beat : GoodIn wsL_law wsX5_beat := goodIn_r _ [503, 16, 166, 504, 505, 102, 506, 168, 169, 2, 170, 91, 92, 93, 451, 452, 453, 41, 454, 46, 455, 315, 657, 658, 659, 660, 661, 674, 675, 676, 677, 678, 679, 680, 681, 694, 695, 696, 697, 698, 699, 700, 701, 702, 703] (by decide +kernel) (by decide +kernel)
set_option maxRecDepth 20000 in
theorem gL_law_X5_beat : GoodIn wsL_law (wsV RL 70 RX5 yX5_beat wsX5_beat) := goodIn_app (goodIn_of _ (by decide +kernel)) ggL_law_X5_beat
set_option maxRecDepth 20000 in
theorem ggL_law_X6_beat : GoodIn wsL_law wsX6_beat := goodIn_r _ [510, 75, 158, 159, 5, 160, 131, 132, 133, 83, 84, 85, 472, 473, 474, 475, 351, 662, 663, 664, 665, 666, 667, 668, 669, 670, 671, 672, 673] (by decide +kernel) (by decide +kernel)
set_option maxRecDepth 20000 in
theorem gL_law_X6_beat : GoodIn wsL_law (wsV RL 73 RX6 yX6_beat wsX6_beat) := goodIn_app (goodIn_of _ (by decide +kernel)) ggL_law_X6_beat
set_option maxRecDepth 20000 in
theorem ggL_law_X5_count : GoodIn wsL_law wsX5_count := goodIn_r _ [514, 16, 90, 495, 515, 516, 101, 102, 103, 517, 518, 29, 357, 21, 519, 215, 216, 217, 15, 218, 38, 42, 520, 288, 289, 290, 291, 292, 293, 294, 295, 296, 36, 297, 521, 522, 523, 524, 525, 526, 527, 528, 457, 458, 41, 459, 46, 315, 657, 658, 659, 660, 661, 674, 675, 676, 677, 678, 679, 680, 681, 687, 688, 689, 690, 691, 692, 693, 682, 683, 684, 694, 695, 696, 697, 698, 699, 700, 701, 702, 703] (by decide +kernel) (by decide +kernel)
set_option maxRecDepth 20000 in
theorem gL_law_X5_count : GoodIn wsL_law (wsV RL 74 RX5 yX5_count wsX5_count) := goodIn_app (goodIn_of _ (by decide +kernel)) ggL_law_X5_count
set_option maxRecDepth 20000 in
theorem ggL_law_X6_count : GoodIn wsL_law wsX6_count := goodIn_r _ [532, 75, 412, 142, 234, 235, 236, 5, 237, 83, 84, 85, 339, 340, 341, 342, 343, 344, 345, 346, 533, 534, 535, 536, 476, 477, 478, 351, 662, 663, 664, 665, 666, 667, 668, 669, 670, 671, 672, 673] (by decide +kernel) (by decide +kernel)
set_option maxRecDepth 20000 in
theorem gL_law_X6_count : GoodIn wsL_law (wsV RL 77 RX6 yX6_count wsX6_count) := goodIn_app (goodIn_of _ (by decide +kernel)) ggL_law_X6_count
set_option maxRecDepth 20000 in
theorem ggL_law_X5_ifMade : GoodIn wsL_law wsX5_ifMade := goodIn_r _ [540, 17, 16, 541, 526, 102, 527, 516, 101, 103, 515, 91, 92, 2, 93, 542, 105, 106, 15, 107, 34, 36, 108, 109, 110, 111, 38, 112, 113, 114, 115, 39, 116, 117, 118, 41, 119, 120, 46, 121, 47, 122, 123, 48, 124, 49, 125, 126, 543, 283, 284, 285, 286, 42, 287, 288, 289, 290, 291, 292, 293, 294, 295, 296, 297, 298, 299, 300, 301, 302, 303, 304, 305, 306, 307, 308, 309, 310, 311, 312, 313, 314, 315, 316, 317, 318, 319, 320, 321, 322, 323, 256, 257, 258, 259, 324, 657, 658, 659, 660, 661, 674, 675, 676, 677, 678, 679, 680, 681, 694, 695, 696, 697, 698, 699, 700, 701, 702, 703] (by decide +kernel) (by decide +kernel)
set_option maxRecDepth 20000 in
theorem gL_law_X5_ifMade : GoodIn wsL_law (wsV RL 78 RX5 yX5_ifMade wsX5_ifMade) := goodIn_app (goodIn_of _ (by decide +kernel)) ggL_law_X5_ifMade
set_option maxRecDepth 20000 in
theorem ggL_law_X6_ifMade : GoodIn wsL_law wsX6_ifMade := goodIn_r _ [547, 75, 77, 131, 132, 5, 133, 548, 549, 550, 551, 334, 335, 336, 337, 338, 339, 340, 341, 342, 83, 84, 85, 343, 344, 345, 346, 347, 348, 349, 350, 351, 552, 553, 554, 555, 662, 663, 664, 665, 666, 667, 668, 669, 670, 671, 672, 673] (by decide +kernel) (by decide +kernel)
set_option maxRecDepth 20000 in
theorem gL_law_X6_ifMade : GoodIn wsL_law (wsV RL 81 RX6 yX6_ifMade wsX6_ifMade) := goodIn_app (goodIn_of _ (by decide +kernel)) ggL_law_X6_ifMade
set_option maxRecDepth 20000 in
theorem ggL_law_X5_untilClip : GoodIn wsL_law wsX5_untilClip := goodIn_r _ [559, 17, 16, 515, 542, 105, 106, 15, 107, 34, 36, 108, 109, 110, 111, 38, 112, 113, 114, 115, 39, 116, 117, 118, 41, 119, 120, 46, 121, 47, 122, 123, 48, 124, 49, 125, 126, 543, 283, 284, 285, 286, 101, 102, 103, 42, 287, 288, 289, 290, 291, 292, 293, 294, 295, 296, 297, 298, 299, 300, 301, 302, 303, 304, 305, 306, 307, 308, 309, 310, 311, 312, 313, 314, 315, 316, 317, 318, 319, 320, 321, 322, 323, 256, 257, 258, 259, 657, 658, 659, 660, 661, 674, 675, 676, 677, 678, 679, 680, 681, 694, 695, 696, 697, 698, 699, 700, 701, 702, 703] (by decide +kernel) (by decide +kernel)
set_option maxRecDepth 20000 in
theorem gL_law_X5_untilClip : GoodIn wsL_law (wsV RL 82 RX5 yX5_untilClip wsX5_untilClip) := goodIn_app (goodIn_of _ (by decide +kernel)) ggL_law_X5_untilClip
set_option maxRecDepth 20000 in
theorem ggL_law_X6_untilClip : GoodIn wsL_law wsX6_untilClip := goodIn_r _ [563, 75, 77, 548, 549, 550, 5, 551, 334, 335, 336, 337, 338, 339, 340, 341, 342, 83, 84, 85, 343, 344, 345, 346, 347, 348, 349, 350, 351, 552, 553, 554, 555, 662, 663, 664, 665, 666, 667, 668, 669, 670, 671, 672, 673] (by decide +kernel) (by decide +kernel)
set_option maxRecDepth 20000 in
theorem gL_law_X6_untilClip : GoodIn wsL_law (wsV RL 85 RX6 yX6_untilClip wsX6_untilClip) := goodIn_app (goodIn_of _ (by decide +kernel)) ggL_law_X6_untilClip
set_option maxRecDepth 20000 in
theorem ggL_law_X5_bestStep : GoodIn wsL_law wsX5_bestStep := goodIn_r _ [567, 568, 569, 504, 505, 102, 506, 91, 92, 2, 93] (by decide +kernel) (by decide +kernel)
set_option maxRecDepth 20000 in
theorem gL_law_X5_bestStep : GoodIn wsL_law (wsV RL 86 RX5 yX5_bestStep wsX5_bestStep) := goodIn_app (goodIn_of _ (by decide +kernel)) ggL_law_X5_bestStep
set_option maxRecDepth 20000 in
theorem ggL_law_X6_bestStep : GoodIn wsL_law wsX6_bestStep := goodIn_r _ [573, 351, 574, 475, 131, 132, 5, 133] (by decide +kernel) (by decide +kernel)
set_option maxRecDepth 20000 in
theorem gL_law_X6_bestStep : GoodIn wsL_law (wsV RL 89 RX6 yX6_bestStep wsX6_bestStep) := goodIn_app (goodIn_of _ (by decide +kernel)) ggL_law_X6_bestStep
set_option maxRecDepth 20000 in
theorem ggL_law_X5_untilRound : GoodIn wsL_law wsX5_untilRound := goodIn_r _ [578, 17, 16, 166, 168, 169, 2, 170, 91, 92, 93, 542, 105, 106, 15, 107, 34, 36, 108, 109, 110, 111, 38, 112, 113, 114, 115, 39, 116, 117, 118, 41, 119, 120, 46, 121, 47, 122, 123, 48, 124, 49, 125, 126, 579, 580, 581, 582, 583, 584, 585, 312, 313, 314, 315, 316, 317, 318, 319, 320, 321, 322, 323, 256, 257, 258, 259, 657, 658, 659, 660, 661, 674, 675, 676, 677, 678, 679, 680, 681, 694, 695, 696, 697, 698, 699, 700, 701, 702, 703] (by decide +kernel) (by decide +kernel)
set_option maxRecDepth 20000 in
theorem gL_law_X5_untilRound : GoodIn wsL_law (wsV RL 90 RX5 yX5_untilRound wsX5_untilRound) := goodIn_app (goodIn_of _ (by decide +kernel)) ggL_law_X5_untilRound
set_option maxRecDepth 20000 in
theorem ggL_law_X6_untilRound : GoodIn wsL_law wsX6_untilRound := goodIn_r _ [589, 590, 75, 158, 159, 5, 160, 131, 132, 133, 548, 549, 550, 551, 77, 83, 84, 85, 347, 348, 349, 350, 351, 552, 553, 554, 555, 662, 663, 664, 665, 666, 667, 668, 669, 670, 671, 672, 673] (by decide +kernel) (by decide +kernel)
set_option maxRecDepth 20000 in
theorem gL_law_X6_untilRound : GoodIn wsL_law (wsV RL 93 RX6 yX6_untilRound wsX6_untilRound) := goodIn_app (goodIn_of _ (by decide +kernel)) ggL_law_X6_untilRound
set_option maxRecDepth 20000 in
theorem ggL_law_X5_put : GoodIn wsL_law wsX5_put := goodIn_r _ [594, 29, 357, 595, 596, 597, 2, 598, 91, 92, 93, 599, 600, 601, 28, 602, 363, 70, 657, 658, 659, 660, 661, 687, 688, 689, 690, 691, 692, 693] (by decide +kernel) (by decide +kernel)
set_option maxRecDepth 20000 in
theorem gL_law_X5_put : GoodIn wsL_law (wsV RL 96 RX5 yX5_put wsX5_put) := goodIn_app (goodIn_of _ (by decide +kernel)) ggL_law_X5_put
set_option maxRecDepth 20000 in
theorem ggL_law_X6_put : GoodIn wsL_law wsX6_put := goodIn_r _ [606, 607, 608, 609, 412, 82, 662, 663, 664, 665, 666, 667, 668, 669, 670, 671, 672, 673] (by decide +kernel) (by decide +kernel)
set_option maxRecDepth 20000 in
theorem gL_law_X6_put : GoodIn wsL_law (wsV RL 100 RX6 yX6_put wsX6_put) := goodIn_app (goodIn_of _ (by decide +kernel)) ggL_law_X6_put
set_option maxRecDepth 20000 in
theorem ggL_law_X5_wipe : GoodIn wsL_law wsX5_wipe := goodIn_r _ [613, 29, 357, 657, 658, 659, 660, 661, 687, 688, 689, 690, 691, 692, 693] (by decide +kernel) (by decide +kernel)
set_option maxRecDepth 20000 in
theorem gL_law_X5_wipe : GoodIn wsL_law (wsV RL 101 RX5 yX5_wipe wsX5_wipe) := goodIn_app (goodIn_of _ (by decide +kernel)) ggL_law_X5_wipe
set_option maxRecDepth 20000 in
theorem ggL_law_X6_wipe : GoodIn wsL_law wsX6_wipe := goodIn_r _ [617, 412, 662, 663, 664, 665, 666, 667, 668, 669, 670, 671, 672, 673] (by decide +kernel) (by decide +kernel)
set_option maxRecDepth 20000 in
theorem gL_law_X6_wipe : GoodIn wsL_law (wsV RL 104 RX6 yX6_wipe wsX6_wipe) := goodIn_app (goodIn_of _ (by decide +kernel)) ggL_law_X6_wipe
set_option maxRecDepth 20000 in
theorem ggL_law_X5_fault : GoodIn wsL_law wsX5_fault := goodIn_r _ [621, 29, 358, 359, 360, 28, 361, 362, 363, 364, 365, 366, 367, 368, 369, 370, 371, 372, 373, 374, 375, 376, 377, 378, 70, 379, 380, 381, 382, 383, 384, 385, 386, 387, 388, 389, 390, 391, 92, 2, 93, 392, 393, 394, 395, 396, 657, 658, 659, 660, 661, 687, 688, 689, 690, 691, 692, 693] (by decide +kernel) (by decide +kernel)
set_option maxRecDepth 20000 in
theorem gL_law_X5_fault : GoodIn wsL_law (wsV RL 105 RX5 yX5_fault wsX5_fault) := goodIn_app (goodIn_of _ (by decide +kernel)) ggL_law_X5_fault
set_option maxRecDepth 20000 in
theorem ggL_law_X6_fault : GoodIn wsL_law wsX6_fault := goodIn_r _ [625, 413, 414, 415, 5, 416, 417, 411, 412, 418, 419, 420, 421, 81, 422, 423, 424, 425, 426, 427, 428, 429, 82, 430, 431, 432, 433, 434, 435, 436, 437, 438, 439, 440, 441, 183, 662, 663, 664, 665, 666, 667, 668, 669, 670, 671, 672, 673] (by decide +kernel) (by decide +kernel)
set_option maxRecDepth 20000 in
theorem gL_law_X6_fault : GoodIn wsL_law (wsV RL 108 RX6 yX6_fault wsX6_fault) := goodIn_app (goodIn_of _ (by decide +kernel)) ggL_law_X6_fault
set_option maxRecDepth 20000 in
theorem ggL_law_X5_undo : GoodIn wsL_law wsX5_undo := goodIn_r _ [629, 21, 519, 16, 630, 631, 632, 20, 633, 98, 99, 634, 526, 102, 527, 55, 104, 105, 106, 15, 107, 34, 36, 108, 109, 110, 111, 38, 112, 113, 114, 115, 39, 116, 117, 118, 41, 119, 120, 46, 121, 47, 122, 123, 48, 124, 49, 125, 126, 657, 658, 659, 660, 661, 682, 683, 684, 674, 675, 676, 677, 678, 679, 680, 681, 694, 695, 696, 697, 698, 699, 700, 701, 702, 703] (by decide +kernel) (by decide +kernel)
set_option maxRecDepth 20000 in
theorem gL_law_X5_undo : GoodIn wsL_law (wsV RL 109 RX5 yX5_undo wsX5_undo) := goodIn_app (goodIn_of _ (by decide +kernel)) ggL_law_X5_undo
set_option maxRecDepth 20000 in
theorem ggL_law_X6_undo : GoodIn wsL_law wsX6_undo := goodIn_r _ [638, 142, 75, 78, 662, 663, 664, 665, 666, 667, 668, 669, 670, 671, 672, 673] (by decide +kernel) (by decide +kernel)
set_option maxRecDepth 20000 in
theorem gL_law_X6_undo : GoodIn wsL_law (wsV RL 112 RX6 yX6_undo wsX6_undo) := goodIn_app (goodIn_of _ (by decide +kernel)) ggL_law_X6_undo
set_option maxRecDepth 20000 in
theorem ggL_law_X5_save : GoodIn wsL_law wsX5_save := goodIn_r _ [642, 25, 643, 16, 644, 495, 91, 92, 2, 93, 542, 105, 106, 15, 107, 34, 36, 108, 109, 110, 111, 38, 112, 113, 114, 115, 39, 116, 117, 118, 41, 119, 120, 46, 121, 47, 122, 123, 48, 124, 49, 125, 126, 657, 658, 659, 660, 661, 685, 686, 674, 675, 676, 677, 678, 679, 680, 681, 694, 695, 696, 697, 698, 699, 700, 701, 702, 703] (by decide +kernel) (by decide +kernel)
set_option maxRecDepth 20000 in
theorem gL_law_X5_save : GoodIn wsL_law (wsV RL 113 RX5 yX5_save wsX5_save) := goodIn_app (goodIn_of _ (by decide +kernel)) ggL_law_X5_save
set_option maxRecDepth 20000 in
theorem ggL_law_X6_save : GoodIn wsL_law wsX6_save := goodIn_r _ [648, 79, 75, 80, 131, 132, 5, 133, 662, 663, 664, 665, 666, 667, 668, 669, 670, 671, 672, 673] (by decide +kernel) (by decide +kernel)
set_option maxRecDepth 20000 in
theorem gL_law_X6_save : GoodIn wsL_law (wsV RL 116 RX6 yX6_save wsX6_save) := goodIn_app (goodIn_of _ (by decide +kernel)) ggL_law_X6_save
set_option maxRecDepth 20000 in
theorem ggL_law_X5_restore : GoodIn wsL_law wsX5_restore := goodIn_r _ [652, 25, 644, 21, 16, 643, 495, 91, 92, 2, 93, 94, 95, 96, 20, 97, 55, 98, 99, 100, 101, 102, 103, 104, 105, 106, 15, 107, 34, 36, 108, 109, 110, 111, 38, 112, 113, 114, 115, 39, 116, 117, 118, 41, 119, 120, 46, 121, 47, 122, 123, 48, 124, 49, 125, 126, 542, 657, 658, 659, 660, 661, 685, 686, 674, 675, 676, 677, 678, 679, 680, 681, 682, 683, 684, 694, 695, 696, 697, 698, 699, 700, 701, 702, 703] (by decide +kernel) (by decide +kernel)
set_option maxRecDepth 20000 in
theorem gL_law_X5_restore : GoodIn wsL_law (wsV RL 117 RX5 yX5_restore wsX5_restore) := goodIn_app (goodIn_of _ (by decide +kernel)) ggL_law_X5_restore
set_option maxRecDepth 20000 in
theorem ggL_law_X6_restore : GoodIn wsL_law wsX6_restore := goodIn_r _ [656, 80, 75, 79, 131, 132, 5, 133, 134, 135, 136, 137, 76, 138, 139, 140, 141, 142, 78, 662, 663, 664, 665, 666, 667, 668, 669, 670, 671, 672, 673] (by decide +kernel) (by decide +kernel)
set_option maxRecDepth 20000 in
theorem gL_law_X6_restore : GoodIn wsL_law (wsV RL 120 RX6 yX6_restore wsX6_restore) := goodIn_app (goodIn_of _ (by decide +kernel)) ggL_law_X6_restore
