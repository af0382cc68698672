set_option maxRecDepth 20000 in
theorem ggL_law_X4_init : GoodIn wsL_law wsX4_init := goodIn_r _ [8, 9, 10, 11, 12, 13, 14, 15, 16, 17, 18, 19, 20, 21, 22, 23, 24, 25, 26, 27, 28, 29, 30, 31, 32, 33, 34, 35, 36, 37, 38, 39, 40, 41, 42, 43, 44, 45, 46, 47, 48, 49, 50, 51, 52, 53, 54, 55, 56, 57, 58, 59, 60, 61, 62, 63, 64, 65, 66, 67, 647, 648, 649, 650, 651, 652, 619, 620, 621, 622, 623, 624, 653, 654, 655, 656, 657, 658, 659, 660, 661] (by decide +kernel) (by decide +kernel)
set_option maxRecDepth 20000 in
theorem gL_law_X4_init : GoodIn wsL_law (wsX4_init) := ggL_law_X4_init
set_option maxRecDepth 20000 in
theorem ggL_law_X5_init : GoodIn wsL_law wsX5_init := goodIn_r _ [70, 71, 10, 11, 72, 73, 29, 74, 75, 76, 77, 78, 79, 41, 80, 81, 82, 83, 84, 85, 86, 87, 88, 89, 90, 91, 92, 93, 625, 626, 627, 628, 629, 630, 631, 632, 633, 634, 635, 636, 637, 638, 639, 640, 641, 642, 643, 644, 645, 646] (by decide +kernel) (by decide +kernel)
set_option maxRecDepth 20000 in
theorem gL_law_X5_init : GoodIn wsL_law (wsX5_init) := ggL_law_X5_init
set_option maxRecDepth 20000 in
theorem ggL_law_X4_box : GoodIn wsL_law wsX4_box := goodIn_r _ [97, 15, 98, 99, 2, 100, 101, 102, 103, 14, 104, 35, 36, 38, 105, 106, 107, 108, 619, 620, 621, 622, 623, 624, 647, 648, 649, 650, 651, 652] (by decide +kernel) (by decide +kernel)
set_option maxRecDepth 20000 in
theorem gL_law_X4_box : GoodIn wsL_law (wsV RL 13 RX4 yX4_box wsX4_box) := goodIn_app (goodIn_r _ [94, 95, 96, 2] (by decide +kernel) (by decide +kernel)) ggL_law_X4_box
set_option maxRecDepth 20000 in
theorem ggL_law_X5_box : GoodIn wsL_law wsX5_box := goodIn_r _ [112, 113, 72, 73, 74, 114, 115, 5, 116, 625, 626, 627, 628, 629, 630, 631, 632, 633, 634, 635, 636, 637, 638, 639, 640, 641, 642, 643, 644, 645, 646] (by decide +kernel) (by decide +kernel)
set_option maxRecDepth 20000 in
theorem gL_law_X5_box : GoodIn wsL_law (wsV RL 17 RX5 yX5_box wsX5_box) := goodIn_app (goodIn_r _ [109, 110, 111, 5] (by decide +kernel) (by decide +kernel)) ggL_law_X5_box
set_option maxRecDepth 20000 in
theorem ggL_law_X4_weight : GoodIn wsL_law wsX4_weight := goodIn_r _ [120, 15, 121, 122, 123, 14, 124, 35, 36, 99, 2, 100, 125, 126, 127, 128, 129, 130, 131, 132, 38, 619, 620, 621, 622, 623, 624, 647, 648, 649, 650, 651, 652] (by decide +kernel) (by decide +kernel)
set_option maxRecDepth 20000 in
theorem gL_law_X4_weight : GoodIn wsL_law (wsV RL 18 RX4 yX4_weight wsX4_weight) := goodIn_app (goodIn_r _ [117, 118, 119, 2] (by decide +kernel) (by decide +kernel)) ggL_law_X4_weight
set_option maxRecDepth 20000 in
theorem ggL_law_X5_weight : GoodIn wsL_law wsX5_weight := goodIn_r _ [136, 137, 74, 138, 139, 140, 5, 141, 72, 73, 114, 115, 116, 625, 626, 627, 628, 629, 630, 631, 632, 633, 634, 635, 636, 637, 638, 639, 640, 641, 642, 643, 644, 645, 646] (by decide +kernel) (by decide +kernel)
set_option maxRecDepth 20000 in
theorem gL_law_X5_weight : GoodIn wsL_law (wsV RL 22 RX5 yX5_weight wsX5_weight) := goodIn_app (goodIn_r _ [133, 134, 135, 5] (by decide +kernel) (by decide +kernel)) ggL_law_X5_weight
set_option maxRecDepth 20000 in
theorem ggL_law_X4_sheet : GoodIn wsL_law wsX4_sheet := goodIn_r _ [145, 17, 146, 147, 2, 148, 98, 99, 100, 149, 150, 151, 152, 153, 154, 19, 155, 48, 49, 50, 156, 157, 107, 158, 619, 620, 621, 622, 623, 624, 653, 654, 655] (by decide +kernel) (by decide +kernel)
set_option maxRecDepth 20000 in
theorem gL_law_X4_sheet : GoodIn wsL_law (wsV RL 23 RX4 yX4_sheet wsX4_sheet) := goodIn_app (goodIn_r _ [142, 143, 144, 2] (by decide +kernel) (by decide +kernel)) ggL_law_X4_sheet
set_option maxRecDepth 20000 in
theorem ggL_law_X5_sheet : GoodIn wsL_law wsX5_sheet := goodIn_r _ [162, 75, 76, 77, 163, 164, 5, 165, 166, 114, 115, 116, 625, 626, 627, 628, 629, 630, 631, 632, 633, 634, 635, 636, 637, 638, 639, 640, 641, 642, 643, 644, 645, 646] (by decide +kernel) (by decide +kernel)
set_option maxRecDepth 20000 in
theorem gL_law_X5_sheet : GoodIn wsL_law (wsV RL 26 RX5 yX5_sheet wsX5_sheet) := goodIn_app (goodIn_r _ [159, 160, 161, 5] (by decide +kernel) (by decide +kernel)) ggL_law_X5_sheet
set_option maxRecDepth 20000 in
theorem ggL_law_X4_drop : GoodIn wsL_law wsX4_drop := goodIn_r _ [170, 17, 146, 147, 2, 148, 98, 99, 100, 171, 172, 173, 19, 174, 49, 175, 176, 177, 178, 50, 619, 620, 621, 622, 623, 624, 653, 654, 655] (by decide +kernel) (by decide +kernel)
set_option maxRecDepth 20000 in
theorem gL_law_X4_drop : GoodIn wsL_law (wsV RL 27 RX4 yX4_drop wsX4_drop) := goodIn_app (goodIn_r _ [167, 168, 169, 2] (by decide +kernel) (by decide +kernel)) ggL_law_X4_drop
set_option maxRecDepth 20000 in
theorem ggL_law_X5_drop : GoodIn wsL_law wsX5_drop := goodIn_r _ [182, 166, 75, 76, 114, 115, 5, 116, 625, 626, 627, 628, 629, 630, 631, 632, 633, 634, 635, 636, 637, 638, 639, 640, 641, 642, 643, 644, 645, 646] (by decide +kernel) (by decide +kernel)
set_option maxRecDepth 20000 in
theorem gL_law_X5_drop : GoodIn wsL_law (wsV RL 31 RX5 yX5_drop wsX5_drop) := goodIn_app (goodIn_r _ [179, 180, 181, 5] (by decide +kernel) (by decide +kernel)) ggL_law_X5_drop
set_option maxRecDepth 20000 in
theorem ggL_law_X4_item : GoodIn wsL_law wsX4_item := goodIn_r _ [186, 17, 187, 188, 189, 2, 190, 146, 147, 148, 98, 99, 100, 149, 150, 151, 171, 172, 173, 19, 174, 49, 191, 192, 193, 194, 195, 196, 197, 198, 50, 199, 200, 201, 202, 48, 619, 620, 621, 622, 623, 624, 653, 654, 655] (by decide +kernel) (by decide +kernel)
set_option maxRecDepth 20000 in
theorem gL_law_X4_item : GoodIn wsL_law (wsV RL 32 RX4 yX4_item wsX4_item) := goodIn_app (goodIn_r _ [183, 184, 185, 2] (by decide +kernel) (by decide +kernel)) ggL_law_X4_item
set_option maxRecDepth 20000 in
theorem ggL_law_X5_item : GoodIn wsL_law wsX5_item := goodIn_r _ [206, 75, 76, 77, 163, 164, 5, 165, 166, 114, 115, 116, 625, 626, 627, 628, 629, 630, 631, 632, 633, 634, 635, 636, 637, 638, 639, 640, 641, 642, 643, 644, 645, 646] (by decide +kernel) (by decide +kernel)
set_option maxRecDepth 20000 in
theorem gL_law_X5_item : GoodIn wsL_law (wsV RL 36 RX5 yX5_item wsX5_item) := goodIn_app (goodIn_r _ [203, 204, 205, 5] (by decide +kernel) (by decide +kernel)) ggL_law_X5_item
set_option maxRecDepth 20000 in
theorem ggL_law_X4_weights : GoodIn wsL_law wsX4_weights := goodIn_r _ [210, 15, 17, 211, 212, 213, 14, 214, 35, 36, 187, 188, 189, 2, 190, 146, 147, 148, 98, 99, 100, 149, 150, 151, 171, 172, 173, 19, 174, 49, 191, 192, 193, 194, 195, 196, 197, 198, 50, 215, 216, 217, 218, 48, 126, 127, 128, 219, 220, 221, 222, 38, 223, 224, 225, 226, 227, 228, 229, 230, 619, 620, 621, 622, 623, 624, 647, 648, 649, 650, 651, 652, 653, 654, 655] (by decide +kernel) (by decide +kernel)
set_option maxRecDepth 20000 in
theorem gL_law_X4_weights : GoodIn wsL_law (wsV RL 37 RX4 yX4_weights wsX4_weights) := goodIn_app (goodIn_r _ [207, 208, 209, 2] (by decide +kernel) (by decide +kernel)) ggL_law_X4_weights
set_option maxRecDepth 20000 in
theorem ggL_law_X5_weights : GoodIn wsL_law wsX5_weights := goodIn_r _ [234, 75, 76, 72, 73, 77, 137, 74, 163, 164, 5, 165, 166, 114, 115, 116, 625, 626, 627, 628, 629, 630, 631, 632, 633, 634, 635, 636, 637, 638, 639, 640, 641, 642, 643, 644, 645, 646] (by decide +kernel) (by decide +kernel)
set_option maxRecDepth 20000 in
theorem gL_law_X5_weights : GoodIn wsL_law (wsV RL 40 RX5 yX5_weights wsX5_weights) := goodIn_app (goodIn_r _ [231, 232, 233, 5] (by decide +kernel) (by decide +kernel)) ggL_law_X5_weights
set_option maxRecDepth 20000 in
theorem ggL_law_X4_turn : GoodIn wsL_law wsX4_turn := goodIn_r _ [238, 15, 239, 240, 241, 14, 242, 38, 35, 36, 619, 620, 621, 622, 623, 624, 647, 648, 649, 650, 651, 652] (by decide +kernel) (by decide +kernel)
set_option maxRecDepth 20000 in
theorem gL_law_X4_turn : GoodIn wsL_law (wsV RL 41 RX4 yX4_turn wsX4_turn) := goodIn_app (goodIn_r _ [235, 236, 237, 2] (by decide +kernel) (by decide +kernel)) ggL_law_X4_turn
set_option maxRecDepth 20000 in
theorem ggL_law_X5_turn : GoodIn wsL_law wsX5_turn := goodIn_r _ [246, 74, 72, 73, 625, 626, 627, 628, 629, 630, 631, 632, 633, 634, 635, 636, 637, 638, 639, 640, 641, 642, 643, 644, 645, 646] (by decide +kernel) (by decide +kernel)
set_option maxRecDepth 20000 in
theorem gL_law_X5_turn : GoodIn wsL_law (wsV RL 45 RX5 yX5_turn wsX5_turn) := goodIn_app (goodIn_r _ [243, 244, 245, 5] (by decide +kernel) (by decide +kernel)) ggL_law_X5_turn
set_option maxRecDepth 20000 in
theorem ggL_law_X4_best : GoodIn wsL_law wsX4_best := goodIn_r _ [250, 15, 121, 122, 123, 14, 124, 35, 36, 99, 2, 100, 251, 252, 253, 254, 39, 38, 255, 256, 257, 258, 619, 620, 621, 622, 623, 624, 647, 648, 649, 650, 651, 652] (by decide +kernel) (by decide +kernel)
set_option maxRecDepth 20000 in
theorem gL_law_X4_best : GoodIn wsL_law (wsV RL 46 RX4 yX4_best wsX4_best) := goodIn_app (goodIn_r _ [247, 248, 249, 2] (by decide +kernel) (by decide +kernel)) ggL_law_X4_best
set_option maxRecDepth 20000 in
theorem ggL_law_X5_best : GoodIn wsL_law wsX5_best := goodIn_r _ [262, 78, 138, 139, 140, 5, 141, 72, 73, 114, 115, 116, 263, 264, 265, 266, 74, 267, 268, 269, 625, 626, 627, 628, 629, 630, 631, 632, 633, 634, 635, 636, 637, 638, 639, 640, 641, 642, 643, 644, 645, 646] (by decide +kernel) (by decide +kernel)
set_option maxRecDepth 20000 in
theorem gL_law_X5_best : GoodIn wsL_law (wsV RL 49 RX5 yX5_best wsX5_best) := goodIn_app (goodIn_r _ [259, 260, 261, 5] (by decide +kernel) (by decide +kernel)) ggL_law_X5_best
set_option maxRecDepth 20000 in
theorem ggL_law_X4_between : GoodIn wsL_law wsX4_between := goodIn_r _ [273, 15, 121, 122, 123, 14, 124, 35, 36, 99, 2, 100, 251, 252, 253, 254, 39, 38, 255, 256, 257, 258, 619, 620, 621, 622, 623, 624, 647, 648, 649, 650, 651, 652] (by decide +kernel) (by decide +kernel)
set_option maxRecDepth 20000 in
theorem gL_law_X4_between : GoodIn wsL_law (wsV RL 50 RX4 yX4_between wsX4_between) := goodIn_app (goodIn_r _ [270, 271, 272, 2] (by decide +kernel) (by decide +kernel)) ggL_law_X4_between
set_option maxRecDepth 20000 in
theorem ggL_law_X5_between : GoodIn wsL_law wsX5_between := goodIn_r _ [277, 78, 138, 139, 140, 5, 141, 72, 73, 114, 115, 116, 263, 264, 265, 266, 74, 267, 268, 269, 625, 626, 627, 628, 629, 630, 631, 632, 633, 634, 635, 636, 637, 638, 639, 640, 641, 642, 643, 644, 645, 646] (by decide +kernel) (by decide +kernel)
set_option maxRecDepth 20000 in
theorem gL_law_X5_between : GoodIn wsL_law (wsV RL 53 RX5 yX5_between wsX5_between) := goodIn_app (goodIn_r _ [274, 275, 276, 5] (by decide +kernel) (by decide +kernel)) ggL_law_X5_between
set_option maxRecDepth 20000 in
theorem ggL_law_X4_shape : GoodIn wsL_law wsX4_shape := goodIn_r _ [281, 15, 282, 283, 284, 14, 285, 35, 36, 99, 2, 100, 98, 286, 287, 288, 289, 290, 291, 292, 293, 43, 255, 256, 257, 258, 38, 294, 295, 296, 297, 298, 299, 300, 301, 302, 303, 619, 620, 621, 622, 623, 624, 647, 648, 649, 650, 651, 652] (by decide +kernel) (by decide +kernel)
set_option maxRecDepth 20000 in
theorem gL_law_X4_shape : GoodIn wsL_law (wsV RL 54 RX4 yX4_shape wsX4_shape) := goodIn_app (goodIn_r _ [278, 279, 280, 2] (by decide +kernel) (by decide +kernel)) ggL_law_X4_shape
set_option maxRecDepth 20000 in
theorem ggL_law_X5_shape : GoodIn wsL_law wsX5_shape := goodIn_r _ [307, 72, 73, 308, 79, 114, 115, 5, 116, 309, 310, 311, 312, 74, 267, 268, 269, 625, 626, 627, 628, 629, 630, 631, 632, 633, 634, 635, 636, 637, 638, 639, 640, 641, 642, 643, 644, 645, 646] (by decide +kernel) (by decide +kernel)
set_option maxRecDepth 20000 in
theorem gL_law_X5_shape : GoodIn wsL_law (wsV RL 57 RX5 yX5_shape wsX5_shape) := goodIn_app (goodIn_r _ [304, 305, 306, 5] (by decide +kernel) (by decide +kernel)) ggL_law_X5_shape
set_option maxRecDepth 20000 in
theorem ggL_law_X4_ways : GoodIn wsL_law wsX4_ways := goodIn_r _ [316, 15, 98, 99, 2, 100, 286, 287, 288, 14, 289, 35, 36, 290, 291, 292, 293, 43, 255, 256, 257, 258, 38, 294, 295, 296, 297, 298, 299, 317, 318, 319, 320, 321, 301, 302, 303, 619, 620, 621, 622, 623, 624, 647, 648, 649, 650, 651, 652] (by decide +kernel) (by decide +kernel)
set_option maxRecDepth 20000 in
theorem gL_law_X4_ways : GoodIn wsL_law (wsV RL 58 RX4 yX4_ways wsX4_ways) := goodIn_app (goodIn_r _ [313, 314, 315, 2] (by decide +kernel) (by decide +kernel)) ggL_law_X4_ways
set_option maxRecDepth 20000 in
theorem ggL_law_X5_ways : GoodIn wsL_law wsX5_ways := goodIn_r _ [325, 113, 79, 72, 73, 114, 115, 5, 116, 309, 310, 311, 312, 74, 267, 268, 269, 625, 626, 627, 628, 629, 630, 631, 632, 633, 634, 635, 636, 637, 638, 639, 640, 641, 642, 643, 644, 645, 646] (by decide +kernel) (by decide +kernel)
set_option maxRecDepth 20000 in
theorem gL_law_X5_ways : GoodIn wsL_law (wsV RL 61 RX5 yX5_ways wsX5_ways) := goodIn_app (goodIn_r _ [322, 323, 324, 5] (by decide +kernel) (by decide +kernel)) ggL_law_X5_ways
set_option maxRecDepth 20000 in
theorem ggL_law_X4_sums : GoodIn wsL_law wsX4_sums := goodIn_r _ [329, 15, 330, 121, 122, 123, 14, 124, 35, 36, 99, 2, 100, 331, 332, 333, 334, 42, 38, 335, 336, 337, 338, 619, 620, 621, 622, 623, 624, 647, 648, 649, 650, 651, 652] (by decide +kernel) (by decide +kernel)
set_option maxRecDepth 20000 in
theorem gL_law_X4_sums : GoodIn wsL_law (wsV RL 62 RX4 yX4_sums wsX4_sums) := goodIn_app (goodIn_r _ [326, 327, 328, 2] (by decide +kernel) (by decide +kernel)) ggL_law_X4_sums
set_option maxRecDepth 20000 in
theorem ggL_law_X5_sums : GoodIn wsL_law wsX5_sums := goodIn_r _ [342, 343, 80, 74, 138, 139, 140, 5, 141, 72, 73, 114, 115, 116, 625, 626, 627, 628, 629, 630, 631, 632, 633, 634, 635, 636, 637, 638, 639, 640, 641, 642, 643, 644, 645, 646] (by decide +kernel) (by decide +kernel)
set_option maxRecDepth 20000 in
theorem gL_law_X5_sums : GoodIn wsL_law (wsV RL 66 RX5 yX5_sums wsX5_sums) := goodIn_app (goodIn_r _ [339, 340, 341, 5] (by decide +kernel) (by decide +kernel)) ggL_law_X5_sums
set_option maxRecDepth 20000 in
theorem ggL_law_X4_served : GoodIn wsL_law wsX4_served := goodIn_r _ [347, 15, 121, 122, 123, 14, 124, 35, 36, 99, 2, 100, 348, 349, 350, 351, 39, 352, 252, 253, 254, 38, 255, 256, 257, 258, 619, 620, 621, 622, 623, 624, 647, 648, 649, 650, 651, 652] (by decide +kernel) (by decide +kernel)
set_option maxRecDepth 20000 in
theorem gL_law_X4_served : GoodIn wsL_law (wsV RL 67 RX4 yX4_served wsX4_served) := goodIn_app (goodIn_r _ [344, 345, 346, 2] (by decide +kernel) (by decide +kernel)) ggL_law_X4_served
set_option maxRecDepth 20000 in
theorem ggL_law_X5_served : GoodIn wsL_law wsX5_served := goodIn_r _ [356, 72, 73, 78, 114, 115, 5, 116, 263, 264, 265, 266, 74, 267, 268, 269, 625, 626, 627, 628, 629, 630, 631, 632, 633, 634, 635, 636, 637, 638, 639, 640, 641, 642, 643, 644, 645, 646] (by decide +kernel) (by decide +kernel)
set_option maxRecDepth 20000 in
theorem gL_law_X5_served : GoodIn wsL_law (wsV RL 70 RX5 yX5_served wsX5_served) := goodIn_app (goodIn_r _ [353, 354, 355, 5] (by decide +kernel) (by decide +kernel)) ggL_law_X5_served
set_option maxRecDepth 20000 in
theorem ggL_law_X4_line : GoodIn wsL_law wsX4_line := goodIn_r _ [360, 15, 361, 362, 363, 14, 364, 35, 36, 98, 99, 2, 100, 365, 366, 367, 368, 352, 252, 253, 254, 39, 38, 255, 256, 257, 258, 369, 370, 371, 372, 373, 122, 123, 124, 619, 620, 621, 622, 623, 624, 647, 648, 649, 650, 651, 652] (by decide +kernel) (by decide +kernel)
set_option maxRecDepth 20000 in
theorem gL_law_X4_line : GoodIn wsL_law (wsV RL 71 RX4 yX4_line wsX4_line) := goodIn_app (goodIn_r _ [357, 358, 359, 2] (by decide +kernel) (by decide +kernel)) ggL_law_X4_line
set_option maxRecDepth 20000 in
theorem ggL_law_X5_line : GoodIn wsL_law wsX5_line := goodIn_r _ [377, 72, 73, 78, 114, 115, 5, 116, 263, 264, 265, 266, 74, 267, 268, 269, 625, 626, 627, 628, 629, 630, 631, 632, 633, 634, 635, 636, 637, 638, 639, 640, 641, 642, 643, 644, 645, 646] (by decide +kernel) (by decide +kernel)
set_option maxRecDepth 20000 in
theorem gL_law_X5_line : GoodIn wsL_law (wsV RL 74 RX5 yX5_line wsX5_line) := goodIn_app (goodIn_r _ [374, 375, 376, 5] (by decide +kernel) (by decide +kernel)) ggL_law_X5_line
set_option maxRecDepth 20000 in
theorem ggL_law_X4_letter : GoodIn wsL_law wsX4_letter := goodIn_r _ [381, 23, 98, 99, 2, 100, 382, 383, 384, 22, 385, 56, 386, 387, 388, 26, 389, 66, 390, 391, 392, 393, 57, 394, 395, 396, 397, 398, 399, 400, 401, 63, 402, 403, 404, 405, 64, 406, 407, 408, 409, 410, 411, 412, 413, 65, 414, 256, 257, 258, 415, 416, 417, 418, 419, 420, 619, 620, 621, 622, 623, 624, 656, 657, 658, 659, 660, 661] (by decide +kernel) (by decide +kernel)
set_option maxRecDepth 20000 in
theorem gL_law_X4_letter : GoodIn wsL_law (wsV RL 75 RX4 yX4_letter wsX4_letter) := goodIn_app (goodIn_r _ [378, 379, 380, 2] (by decide +kernel) (by decide +kernel)) ggL_law_X4_letter
set_option maxRecDepth 20000 in
theorem ggL_law_X5_letter : GoodIn wsL_law wsX5_letter := goodIn_r _ [424, 425, 426, 81, 114, 115, 5, 116, 625, 626, 627, 628, 629, 630, 631, 632, 633, 634, 635, 636, 637, 638, 639, 640, 641, 642, 643, 644, 645, 646] (by decide +kernel) (by decide +kernel)
set_option maxRecDepth 20000 in
theorem gL_law_X5_letter : GoodIn wsL_law (wsV RL 78 RX5 yX5_letter wsX5_letter) := goodIn_app (goodIn_r _ [421, 422, 423, 5] (by decide +kernel) (by decide +kernel)) ggL_law_X5_letter
set_option maxRecDepth 20000 in
theorem ggL_law_X4_clear : GoodIn wsL_law wsX4_clear := goodIn_r _ [430, 23, 382, 383, 384, 22, 385, 56, 386, 387, 388, 26, 389, 66, 431, 432, 433, 434, 57, 435, 436, 437, 438, 64, 65, 439, 106, 107, 108, 619, 620, 621, 622, 623, 624, 656, 657, 658, 659, 660, 661] (by decide +kernel) (by decide +kernel)
set_option maxRecDepth 20000 in
theorem gL_law_X4_clear : GoodIn wsL_law (wsV RL 79 RX4 yX4_clear wsX4_clear) := goodIn_app (goodIn_r _ [427, 428, 429, 2] (by decide +kernel) (by decide +kernel)) ggL_law_X4_clear
set_option maxRecDepth 20000 in
theorem ggL_law_X5_clear : GoodIn wsL_law wsX5_clear := goodIn_r _ [443, 426, 625, 626, 627, 628, 629, 630, 631, 632, 633, 634, 635, 636, 637, 638, 639, 640, 641, 642, 643, 644, 645, 646] (by decide +kernel) (by decide +kernel)
set_option maxRecDepth 20000 in
theorem gL_law_X5_clear : GoodIn wsL_law (wsV RL 82 RX5 yX5_clear wsX5_clear) := goodIn_app (goodIn_r _ [440, 441, 442, 5] (by decide +kernel) (by decide +kernel)) ggL_law_X5_clear
set_option maxRecDepth 20000 in
theorem ggL_law_X4_row : GoodIn wsL_law wsX4_row := goodIn_r _ [447, 23, 98, 99, 2, 100, 448, 449, 450, 22, 451, 56, 57, 452, 403, 404, 26, 405, 64, 619, 620, 621, 622, 623, 624, 656, 657, 658, 659, 660, 661] (by decide +kernel) (by decide +kernel)
set_option maxRecDepth 20000 in
theorem gL_law_X4_row : GoodIn wsL_law (wsV RL 83 RX4 yX4_row wsX4_row) := goodIn_app (goodIn_r _ [444, 445, 446, 2] (by decide +kernel) (by decide +kernel)) ggL_law_X4_row
set_option maxRecDepth 20000 in
theorem ggL_law_X5_row : GoodIn wsL_law wsX5_row := goodIn_r _ [456, 457, 84, 114, 115, 5, 116, 458, 459, 460, 461, 426, 81, 462, 463, 464, 465, 82, 83, 625, 626, 627, 628, 629, 630, 631, 632, 633, 634, 635, 636, 637, 638, 639, 640, 641, 642, 643, 644, 645, 646] (by decide +kernel) (by decide +kernel)
set_option maxRecDepth 20000 in
theorem gL_law_X5_row : GoodIn wsL_law (wsV RL 86 RX5 yX5_row wsX5_row) := goodIn_app (goodIn_r _ [453, 454, 455, 5] (by decide +kernel) (by decide +kernel)) ggL_law_X5_row
set_option maxRecDepth 20000 in
theorem ggL_law_X4_place : GoodIn wsL_law wsX4_place := goodIn_r _ [469, 23, 470, 471, 2, 472, 98, 99, 100, 448, 449, 450, 22, 451, 56, 57, 473, 407, 408, 26, 409, 402, 403, 404, 405, 64, 474, 475, 476, 477, 63, 406, 619, 620, 621, 622, 623, 624, 656, 657, 658, 659, 660, 661] (by decide +kernel) (by decide +kernel)
set_option maxRecDepth 20000 in
theorem gL_law_X4_place : GoodIn wsL_law (wsV RL 87 RX4 yX4_place wsX4_place) := goodIn_app (goodIn_r _ [466, 467, 468, 2] (by decide +kernel) (by decide +kernel)) ggL_law_X4_place
set_option maxRecDepth 20000 in
theorem ggL_law_X5_place : GoodIn wsL_law wsX5_place := goodIn_r _ [481, 457, 84, 82, 83, 114, 115, 5, 116, 458, 459, 460, 461, 426, 81, 462, 463, 464, 465, 625, 626, 627, 628, 629, 630, 631, 632, 633, 634, 635, 636, 637, 638, 639, 640, 641, 642, 643, 644, 645, 646] (by decide +kernel) (by decide +kernel)
set_option maxRecDepth 20000 in
theorem gL_law_X5_place : GoodIn wsL_law (wsV RL 90 RX5 yX5_place wsX5_place) := goodIn_app (goodIn_r _ [478, 479, 480, 5] (by decide +kernel) (by decide +kernel)) ggL_law_X5_place
set_option maxRecDepth 20000 in
theorem ggL_law_X4_longest : GoodIn wsL_law wsX4_longest := goodIn_r _ [485, 23, 470, 471, 2, 472, 98, 99, 100, 448, 449, 450, 22, 451, 56, 57, 452, 403, 404, 26, 405, 64, 486, 487, 488, 489, 65, 619, 620, 621, 622, 623, 624, 656, 657, 658, 659, 660, 661] (by decide +kernel) (by decide +kernel)
set_option maxRecDepth 20000 in
theorem gL_law_X4_longest : GoodIn wsL_law (wsV RL 91 RX4 yX4_longest wsX4_longest) := goodIn_app (goodIn_r _ [482, 483, 484, 2] (by decide +kernel) (by decide +kernel)) ggL_law_X4_longest
set_option maxRecDepth 20000 in
theorem ggL_law_X5_longest : GoodIn wsL_law wsX5_longest := goodIn_r _ [493, 426, 85, 81, 114, 115, 5, 116, 267, 268, 269, 625, 626, 627, 628, 629, 630, 631, 632, 633, 634, 635, 636, 637, 638, 639, 640, 641, 642, 643, 644, 645, 646] (by decide +kernel) (by decide +kernel)
set_option maxRecDepth 20000 in
theorem gL_law_X5_longest : GoodIn wsL_law (wsV RL 94 RX5 yX5_longest wsX5_longest) := goodIn_app (goodIn_r _ [490, 491, 492, 5] (by decide +kernel) (by decide +kernel)) ggL_law_X5_longest
set_option maxRecDepth 20000 in
theorem ggL_law_X4_lay : GoodIn wsL_law wsX4_lay := goodIn_r _ [497, 27, 28, 498, 295, 257, 296, 470, 471, 2, 472, 98, 99, 100, 486, 487, 488, 26, 489, 65, 499, 387, 388, 389, 66, 500, 411, 412, 413, 63, 64, 414, 256, 258, 452, 403, 404, 405, 619, 620, 621, 622, 623, 624, 658, 659, 660, 661] (by decide +kernel) (by decide +kernel)
set_option maxRecDepth 20000 in
theorem gL_law_X4_lay : GoodIn wsL_law (wsV RL 95 RX4 yX4_lay wsX4_lay) := goodIn_app (goodIn_r _ [494, 495, 496, 2] (by decide +kernel) (by decide +kernel)) ggL_law_X4_lay
set_option maxRecDepth 20000 in
theorem ggL_law_X5_lay : GoodIn wsL_law wsX5_lay := goodIn_r _ [504, 505, 457, 88, 89, 86, 87, 114, 115, 5, 116, 506, 507, 508, 509, 510, 511, 625, 626, 627, 628, 629, 630, 631, 632, 633, 634, 635, 636, 637, 638, 639, 640, 641, 642, 643, 644, 645, 646] (by decide +kernel) (by decide +kernel)
set_option maxRecDepth 20000 in
theorem gL_law_X5_lay : GoodIn wsL_law (wsV RL 98 RX5 yX5_lay wsX5_lay) := goodIn_app (goodIn_r _ [501, 502, 503, 5] (by decide +kernel) (by decide +kernel)) ggL_law_X5_lay
set_option maxRecDepth 20000 in
theorem ggL_law_X4_unlay : GoodIn wsL_law wsX4_unlay := goodIn_r _ [515, 27, 28, 499, 387, 388, 26, 389, 66, 516, 436, 437, 438, 64, 65, 439, 106, 107, 108, 619, 620, 621, 622, 623, 624, 658, 659, 660, 661] (by decide +kernel) (by decide +kernel)
set_option maxRecDepth 20000 in
theorem gL_law_X4_unlay : GoodIn wsL_law (wsV RL 99 RX4 yX4_unlay wsX4_unlay) := goodIn_app (goodIn_r _ [512, 513, 514, 2] (by decide +kernel) (by decide +kernel)) ggL_law_X4_unlay
set_option maxRecDepth 20000 in
theorem ggL_law_X5_unlay : GoodIn wsL_law wsX5_unlay := goodIn_r _ [520, 88, 89, 509, 510, 5, 511, 625, 626, 627, 628, 629, 630, 631, 632, 633, 634, 635, 636, 637, 638, 639, 640, 641, 642, 643, 644, 645, 646] (by decide +kernel) (by decide +kernel)
set_option maxRecDepth 20000 in
theorem gL_law_X5_unlay : GoodIn wsL_law (wsV RL 102 RX5 yX5_unlay wsX5_unlay) := goodIn_app (goodIn_r _ [517, 518, 519, 5] (by decide +kernel) (by decide +kernel)) ggL_law_X5_unlay
set_option maxRecDepth 20000 in
theorem ggL_law_X4_back : GoodIn wsL_law wsX4_back := goodIn_r _ [524, 27, 28, 23, 30, 525, 526, 527, 2, 528, 529, 530, 531, 26, 532, 64, 402, 403, 404, 405, 533, 534, 535, 536, 65, 537, 538, 539, 540, 63, 541, 475, 476, 477, 406, 407, 408, 409, 542, 543, 544, 545, 546, 547, 548, 549, 66, 499, 387, 388, 389, 550, 551, 552, 553, 554, 555, 556, 557, 558, 559, 560, 561, 562, 563, 564, 565, 566, 567, 568, 569, 570, 415, 416, 417, 418, 516, 436, 437, 438, 439, 106, 107, 108, 571, 572, 573, 22, 574, 575, 432, 433, 434, 56, 57, 435, 576, 391, 392, 393, 394, 395, 396, 397, 398, 399, 400, 401, 410, 411, 412, 413, 414, 256, 257, 258, 99, 100, 419, 383, 384, 385, 386, 420, 619, 620, 621, 622, 623, 624, 658, 659, 660, 661, 656, 657] (by decide +kernel) (by decide +kernel)
set_option maxRecDepth 20000 in
theorem gL_law_X4_back : GoodIn wsL_law (wsV RL 103 RX4 yX4_back wsX4_back) := goodIn_app (goodIn_r _ [521, 522, 523, 2] (by decide +kernel) (by decide +kernel)) ggL_law_X4_back
set_option maxRecDepth 20000 in
theorem ggL_law_X5_back : GoodIn wsL_law wsX5_back := goodIn_r _ [580, 88, 426, 89, 87, 86, 81, 581, 582, 583, 5, 584, 91, 509, 510, 511, 625, 626, 627, 628, 629, 630, 631, 632, 633, 634, 635, 636, 637, 638, 639, 640, 641, 642, 643, 644, 645, 646] (by decide +kernel) (by decide +kernel)
set_option maxRecDepth 20000 in
theorem gL_law_X5_back : GoodIn wsL_law (wsV RL 106 RX5 yX5_back wsX5_back) := goodIn_app (goodIn_r _ [577, 578, 579, 5] (by decide +kernel) (by decide +kernel)) ggL_law_X5_back
set_option maxRecDepth 20000 in
theorem ggL_law_X4_wordOf : GoodIn wsL_law wsX4_wordOf := goodIn_r _ [588, 15, 30, 23, 227, 228, 229, 14, 230, 35, 36, 38, 589, 590, 591, 592, 571, 572, 573, 22, 574, 575, 432, 433, 434, 56, 57, 435, 436, 437, 26, 438, 64, 65, 66, 439, 106, 107, 108, 576, 391, 392, 393, 394, 395, 396, 397, 398, 399, 400, 401, 63, 402, 403, 404, 405, 406, 407, 408, 409, 410, 411, 412, 413, 414, 256, 257, 258, 99, 2, 100, 415, 416, 417, 418, 419, 383, 384, 385, 386, 387, 388, 389, 420, 619, 620, 621, 622, 623, 624, 647, 648, 649, 650, 651, 652, 656, 657, 658, 659, 660, 661] (by decide +kernel) (by decide +kernel)
set_option maxRecDepth 20000 in
theorem gL_law_X4_wordOf : GoodIn wsL_law (wsV RL 107 RX4 yX4_wordOf wsX4_wordOf) := goodIn_app (goodIn_r _ [585, 586, 587, 2] (by decide +kernel) (by decide +kernel)) ggL_law_X4_wordOf
set_option maxRecDepth 20000 in
theorem ggL_law_X5_wordOf : GoodIn wsL_law wsX5_wordOf := goodIn_r _ [596, 72, 73, 74, 426, 81, 625, 626, 627, 628, 629, 630, 631, 632, 633, 634, 635, 636, 637, 638, 639, 640, 641, 642, 643, 644, 645, 646] (by decide +kernel) (by decide +kernel)
set_option maxRecDepth 20000 in
theorem gL_law_X5_wordOf : GoodIn wsL_law (wsV RL 110 RX5 yX5_wordOf wsX5_wordOf) := goodIn_app (goodIn_r _ [593, 594, 595, 5] (by decide +kernel) (by decide +kernel)) ggL_law_X5_wordOf
set_option maxRecDepth 20000 in
theorem ggL_law_X4_chance : GoodIn wsL_law wsX4_chance := goodIn_r _ [600, 330, 98, 99, 2, 100, 601, 602, 603, 498, 295, 257, 296, 604, 605, 606, 607] (by decide +kernel) (by decide +kernel)
set_option maxRecDepth 20000 in
theorem gL_law_X4_chance : GoodIn wsL_law (wsV RL 111 RX4 yX4_chance wsX4_chance) := goodIn_app (goodIn_r _ [597, 598, 599, 2] (by decide +kernel) (by decide +kernel)) ggL_law_X4_chance
set_option maxRecDepth 20000 in
theorem ggL_law_X5_chance : GoodIn wsL_law wsX5_chance := goodIn_r _ [611, 166, 457, 343, 92, 114, 115, 5, 116, 612, 613, 614, 615, 93, 616, 617, 618, 267, 268, 269, 625, 626, 627, 628, 629, 630, 631, 632, 633, 634, 635, 636, 637, 638, 639, 640, 641, 642, 643, 644, 645, 646] (by decide +kernel) (by decide +kernel)
set_option maxRecDepth 20000 in
theorem gL_law_X5_chance : GoodIn wsL_law (wsV RL 115 RX5 yX5_chance wsX5_chance) := goodIn_app (goodIn_r _ [608, 609, 610, 5] (by decide +kernel) (by decide +kernel)) ggL_law_X5_chance
