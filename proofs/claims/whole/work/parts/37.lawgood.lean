set_option maxRecDepth 20000 in
theorem ggL_law_X5_init : GoodIn wsL_law wsX5_init := goodIn_r _ [9, 10, 11, 12, 13, 14, 15, 16, 17, 18, 19, 20, 21, 22, 23, 24, 25, 26, 27, 28, 29, 30, 31, 32, 33, 34, 35, 36, 37, 38, 39, 40, 41, 42, 43, 44, 45, 46, 47, 6, 48, 49, 50, 51, 52, 53, 54, 55, 56, 57, 58, 59, 60, 61, 62, 63, 2, 64, 65, 66, 67, 68, 69, 70, 71, 738, 739, 740, 741, 742, 743, 744, 745, 746, 747, 709, 710, 711, 712, 748, 749, 750, 751, 752, 753, 754, 755, 756, 757, 758, 759, 760, 761, 762, 763, 764] (by decide +kernel) (by decide +kernel)
set_option maxRecDepth 20000 in
theorem gL_law_X5_init : GoodIn wsL_law (wsX5_init) := ggL_law_X5_init
set_option maxRecDepth 20000 in
theorem ggL_law_X6_init : GoodIn wsL_law wsX6_init := goodIn_r _ [74, 75, 11, 12, 32, 76, 77, 78, 79, 80, 81, 82, 83, 84, 6, 85, 86, 87, 88, 89, 90, 91, 92, 93, 94, 713, 714, 715, 716, 717, 718, 719, 720, 721, 722, 723, 724, 725, 726, 727, 728, 729, 730, 731, 732, 733, 734, 735, 736, 737] (by decide +kernel) (by decide +kernel)
set_option maxRecDepth 20000 in
theorem gL_law_X6_init : GoodIn wsL_law (wsX6_init) := ggL_law_X6_init
set_option maxRecDepth 20000 in
theorem ggL_law_X5_row : GoodIn wsL_law wsX5_row := goodIn_r _ [98, 16, 99, 100, 2, 101, 102, 103, 104, 105, 106, 107, 108, 109, 110, 15, 111, 40, 112, 113, 114, 115, 33, 116, 117, 118, 119, 34, 63, 64, 120, 121, 122, 123, 37, 38, 39, 124, 125, 126, 127, 35, 36, 709, 710, 711, 712, 738, 739, 740, 741, 742, 743, 744, 745, 746, 747] (by decide +kernel) (by decide +kernel)
set_option maxRecDepth 20000 in
theorem gL_law_X5_row : GoodIn wsL_law (wsV RL 23 RX5 yX5_row wsX5_row) := goodIn_app (goodIn_of _ (by decide +kernel)) ggL_law_X5_row
set_option maxRecDepth 20000 in
theorem ggL_law_X6_row : GoodIn wsL_law wsX6_row := goodIn_r _ [131, 132, 133, 76, 79, 134, 135, 5, 136, 137, 138, 139, 140, 141, 142, 143, 77, 713, 714, 715, 716, 717, 718, 719, 720, 721, 722, 723, 724, 725, 726, 727, 728, 729, 730, 731, 732, 733, 734, 735, 736, 737] (by decide +kernel) (by decide +kernel)
set_option maxRecDepth 20000 in
theorem gL_law_X6_row : GoodIn wsL_law (wsV RL 27 RX6 yX6_row wsX6_row) := goodIn_app (goodIn_of _ (by decide +kernel)) ggL_law_X6_row
set_option maxRecDepth 20000 in
theorem ggL_law_X5_word : GoodIn wsL_law wsX5_word := goodIn_r _ [147, 16, 148, 149, 150, 15, 151, 40, 152, 153, 2, 154, 105, 106, 107, 155, 156, 157, 158, 35, 159, 160, 161, 162, 36, 116, 117, 118, 119, 34, 63, 64, 120, 121, 122, 123, 37, 38, 39, 33, 124, 125, 126, 127, 709, 710, 711, 712, 738, 739, 740, 741, 742, 743, 744, 745, 746, 747] (by decide +kernel) (by decide +kernel)
set_option maxRecDepth 20000 in
theorem gL_law_X5_word : GoodIn wsL_law (wsV RL 28 RX5 yX5_word wsX5_word) := goodIn_app (goodIn_of _ (by decide +kernel)) ggL_law_X5_word
set_option maxRecDepth 20000 in
theorem ggL_law_X6_word : GoodIn wsL_law wsX6_word := goodIn_r _ [166, 132, 79, 80, 167, 168, 169, 5, 170, 133, 137, 138, 139, 140, 141, 142, 143, 77, 713, 714, 715, 716, 717, 718, 719, 720, 721, 722, 723, 724, 725, 726, 727, 728, 729, 730, 731, 732, 733, 734, 735, 736, 737] (by decide +kernel) (by decide +kernel)
set_option maxRecDepth 20000 in
theorem gL_law_X6_word : GoodIn wsL_law (wsV RL 32 RX6 yX6_word wsX6_word) := goodIn_app (goodIn_of _ (by decide +kernel)) ggL_law_X6_word
set_option maxRecDepth 20000 in
theorem ggL_law_X5_label : GoodIn wsL_law wsX5_label := goodIn_r _ [174, 16, 148, 149, 150, 15, 151, 40, 99, 100, 2, 101, 102, 103, 104, 105, 106, 107, 175, 176, 177, 178, 33, 116, 117, 118, 119, 34, 63, 64, 120, 121, 122, 123, 37, 38, 39, 124, 125, 126, 127, 35, 36, 709, 710, 711, 712, 738, 739, 740, 741, 742, 743, 744, 745, 746, 747] (by decide +kernel) (by decide +kernel)
set_option maxRecDepth 20000 in
theorem gL_law_X5_label : GoodIn wsL_law (wsV RL 33 RX5 yX5_label wsX5_label) := goodIn_app (goodIn_of _ (by decide +kernel)) ggL_law_X5_label
set_option maxRecDepth 20000 in
theorem ggL_law_X6_label : GoodIn wsL_law wsX6_label := goodIn_r _ [182, 132, 76, 167, 168, 169, 5, 170, 133, 137, 138, 139, 134, 135, 136, 140, 141, 142, 143, 77, 713, 714, 715, 716, 717, 718, 719, 720, 721, 722, 723, 724, 725, 726, 727, 728, 729, 730, 731, 732, 733, 734, 735, 736, 737] (by decide +kernel) (by decide +kernel)
set_option maxRecDepth 20000 in
theorem gL_law_X6_label : GoodIn wsL_law (wsV RL 36 RX6 yX6_label wsX6_label) := goodIn_app (goodIn_of _ (by decide +kernel)) ggL_law_X6_label
set_option maxRecDepth 20000 in
theorem ggL_law_X5_addition : GoodIn wsL_law wsX5_addition := goodIn_r _ [186, 16, 105, 106, 2, 107, 187, 188, 189, 15, 190, 41, 42, 116, 117, 118, 119, 34, 63, 64, 120, 121, 122, 123, 37, 38, 39, 40, 33, 124, 125, 126, 127, 35, 36, 709, 710, 711, 712, 738, 739, 740, 741, 742, 743, 744, 745, 746, 747] (by decide +kernel) (by decide +kernel)
set_option maxRecDepth 20000 in
theorem gL_law_X5_addition : GoodIn wsL_law (wsV RL 37 RX5 yX5_addition wsX5_addition) := goodIn_app (goodIn_of _ (by decide +kernel)) ggL_law_X5_addition
set_option maxRecDepth 20000 in
theorem ggL_law_X6_addition : GoodIn wsL_law wsX6_addition := goodIn_r _ [194, 132, 81, 82, 137, 138, 5, 139, 140, 141, 142, 143, 77, 713, 714, 715, 716, 717, 718, 719, 720, 721, 722, 723, 724, 725, 726, 727, 728, 729, 730, 731, 732, 733, 734, 735, 736, 737] (by decide +kernel) (by decide +kernel)
set_option maxRecDepth 20000 in
theorem gL_law_X6_addition : GoodIn wsL_law (wsV RL 40 RX6 yX6_addition wsX6_addition) := goodIn_app (goodIn_of _ (by decide +kernel)) ggL_law_X6_addition
set_option maxRecDepth 20000 in
theorem ggL_law_X5_counted : GoodIn wsL_law wsX5_counted := goodIn_r _ [198, 16, 102, 103, 2, 104, 105, 106, 107, 152, 153, 154, 199, 200, 201, 15, 202, 37, 203, 204, 205, 206, 38, 207, 208, 209, 210, 39, 709, 710, 711, 712, 738, 739, 740, 741, 742, 743, 744, 745, 746, 747] (by decide +kernel) (by decide +kernel)
set_option maxRecDepth 20000 in
theorem gL_law_X5_counted : GoodIn wsL_law (wsV RL 41 RX5 yX5_counted wsX5_counted) := goodIn_app (goodIn_of _ (by decide +kernel)) ggL_law_X5_counted
set_option maxRecDepth 20000 in
theorem ggL_law_X6_counted : GoodIn wsL_law wsX6_counted := goodIn_r _ [214, 132, 137, 138, 5, 139, 215, 216, 217, 218, 133, 219, 220, 221, 222, 76, 77, 223, 224, 225, 226, 79, 80, 713, 714, 715, 716, 717, 718, 719, 720, 721, 722, 723, 724, 725, 726, 727, 728, 729, 730, 731, 732, 733, 734, 735, 736, 737] (by decide +kernel) (by decide +kernel)
set_option maxRecDepth 20000 in
theorem gL_law_X6_counted : GoodIn wsL_law (wsV RL 44 RX6 yX6_counted wsX6_counted) := goodIn_app (goodIn_of _ (by decide +kernel)) ggL_law_X6_counted
set_option maxRecDepth 20000 in
theorem ggL_law_L_share : GoodIn wsL_law wsL_share := goodIn_ca (goodIn_r _ [230, 231, 232, 233, 234, 2, 235, 236, 237, 238, 16, 102, 103, 104, 105, 106, 107, 152, 153, 154, 239, 240, 241, 242, 243, 244, 15, 245, 38, 42, 246, 41, 247, 248, 249, 250, 251, 200, 201, 202, 37, 252, 253, 254, 255, 256, 257, 258, 709, 710, 711, 712, 738, 739, 740, 741, 742, 743, 744, 745, 746, 747] (by decide +kernel) (by decide +kernel)) (goodIn_sub (fun _ h => List.mem_append_right _ h) (by decide +kernel))
set_option maxRecDepth 20000 in
theorem gL_law_L_share : GoodIn wsL_law (va_wsS RL 45 yL_share wsL_share) := goodIn_app (goodIn_of _ (by decide +kernel)) ggL_law_L_share
set_option maxRecDepth 20000 in
theorem ggL_law_X6_share : GoodIn wsL_law wsX6_share := goodIn_r _ [262, 132, 263, 137, 138, 5, 139, 264, 265, 266, 267, 82, 268, 81, 223, 224, 225, 226, 133, 79, 80, 219, 220, 221, 222, 76, 77, 269, 270, 271, 272, 273, 274, 275, 276, 277, 278, 713, 714, 715, 716, 717, 718, 719, 720, 721, 722, 723, 724, 725, 726, 727, 728, 729, 730, 731, 732, 733, 734, 735, 736, 737] (by decide +kernel) (by decide +kernel)
set_option maxRecDepth 20000 in
theorem gL_law_X6_share : GoodIn wsL_law (wsV RL 50 RX6 yX6_share wsX6_share) := goodIn_app (goodIn_of _ (by decide +kernel)) ggL_law_X6_share
set_option maxRecDepth 20000 in
theorem ggL_law_X6_thrown : GoodIn wsL_law wsX6_thrown := goodIn_r _ [282, 132, 713, 714, 715, 716, 717, 718, 719, 720, 721, 722, 723, 724, 725, 726, 727, 728, 729, 730, 731, 732, 733, 734, 735, 736, 737] (by decide +kernel) (by decide +kernel)
set_option maxRecDepth 20000 in
theorem gL_law_X6_thrown : GoodIn wsL_law (wsV RL 51 RX6 yX6_thrown wsX6_thrown) := goodIn_app (goodIn_of _ (by decide +kernel)) ggL_law_X6_thrown
set_option maxRecDepth 20000 in
theorem ggL_law_X5_weight : GoodIn wsL_law wsX5_weight := goodIn_r _ [286, 16, 238, 148, 149, 150, 15, 151, 40, 102, 103, 2, 104, 105, 106, 107, 239, 240, 241, 287, 288, 289, 290, 39, 35, 36, 291, 248, 249, 250, 42, 41, 251, 200, 201, 202, 37, 292, 293, 294, 295, 296, 243, 244, 245, 38, 246, 252, 253, 254, 255, 256, 257, 258, 709, 710, 711, 712, 738, 739, 740, 741, 742, 743, 744, 745, 746, 747] (by decide +kernel) (by decide +kernel)
set_option maxRecDepth 20000 in
theorem gL_law_X5_weight : GoodIn wsL_law (wsV RL 55 RX5 yX5_weight wsX5_weight) := goodIn_app (goodIn_of _ (by decide +kernel)) ggL_law_X5_weight
set_option maxRecDepth 20000 in
theorem ggL_law_X6_weight : GoodIn wsL_law wsX6_weight := goodIn_r _ [300, 132, 263, 301, 302, 167, 168, 169, 5, 170, 133, 137, 138, 139, 303, 304, 305, 306, 79, 80, 215, 216, 217, 218, 219, 220, 221, 222, 76, 77, 264, 265, 266, 267, 82, 268, 81, 223, 224, 225, 226, 269, 270, 271, 272, 273, 274, 275, 276, 277, 278, 713, 714, 715, 716, 717, 718, 719, 720, 721, 722, 723, 724, 725, 726, 727, 728, 729, 730, 731, 732, 733, 734, 735, 736, 737] (by decide +kernel) (by decide +kernel)
set_option maxRecDepth 20000 in
theorem gL_law_X6_weight : GoodIn wsL_law (wsV RL 58 RX6 yX6_weight wsX6_weight) := goodIn_app (goodIn_of _ (by decide +kernel)) ggL_law_X6_weight
set_option maxRecDepth 20000 in
theorem ggL_law_X5_best : GoodIn wsL_law wsX5_best := goodIn_r _ [310, 16, 148, 149, 150, 15, 151, 40, 311, 312, 313, 314, 315, 288, 289, 290, 39, 35, 36, 291, 248, 249, 250, 42, 41, 251, 200, 201, 202, 37, 316, 293, 294, 295, 296, 243, 244, 245, 38, 246, 317, 318, 254, 319, 709, 710, 711, 712, 738, 739, 740, 741, 742, 743, 744, 745, 746, 747] (by decide +kernel) (by decide +kernel)
set_option maxRecDepth 20000 in
theorem gL_law_X5_best : GoodIn wsL_law (wsV RL 59 RX5 yX5_best wsX5_best) := goodIn_app (goodIn_of _ (by decide +kernel)) ggL_law_X5_best
set_option maxRecDepth 20000 in
theorem ggL_law_X6_best : GoodIn wsL_law wsX6_best := goodIn_r _ [323, 132, 167, 168, 169, 5, 170, 133, 137, 138, 139, 324, 325, 326, 327, 301, 302, 303, 304, 305, 306, 79, 80, 215, 216, 217, 218, 219, 220, 221, 222, 76, 77, 264, 265, 266, 267, 82, 268, 81, 223, 224, 225, 226, 269, 270, 271, 272, 328, 329, 330, 713, 714, 715, 716, 717, 718, 719, 720, 721, 722, 723, 724, 725, 726, 727, 728, 729, 730, 731, 732, 733, 734, 735, 736, 737] (by decide +kernel) (by decide +kernel)
set_option maxRecDepth 20000 in
theorem gL_law_X6_best : GoodIn wsL_law (wsV RL 62 RX6 yX6_best wsX6_best) := goodIn_app (goodIn_of _ (by decide +kernel)) ggL_law_X6_best
set_option maxRecDepth 20000 in
theorem ggL_law_X5_rounds : GoodIn wsL_law wsX5_rounds := goodIn_r _ [334, 16, 105, 106, 2, 107, 335, 336, 337, 15, 338, 40, 33, 34, 339, 312, 313, 314, 315, 288, 289, 290, 39, 35, 36, 291, 248, 249, 250, 42, 41, 251, 200, 201, 202, 37, 316, 293, 294, 295, 296, 243, 244, 245, 38, 246, 317, 318, 254, 319, 120, 121, 122, 123, 63, 64, 124, 125, 126, 127, 709, 710, 711, 712, 738, 739, 740, 741, 742, 743, 744, 745, 746, 747] (by decide +kernel) (by decide +kernel)
set_option maxRecDepth 20000 in
theorem gL_law_X5_rounds : GoodIn wsL_law (wsV RL 63 RX5 yX5_rounds wsX5_rounds) := goodIn_app (goodIn_of _ (by decide +kernel)) ggL_law_X5_rounds
set_option maxRecDepth 20000 in
theorem ggL_law_X6_rounds : GoodIn wsL_law wsX6_rounds := goodIn_r _ [343, 132, 137, 138, 5, 139, 344, 345, 346, 347, 133, 78, 76, 77, 324, 325, 326, 327, 301, 302, 303, 304, 305, 306, 79, 80, 215, 216, 217, 218, 219, 220, 221, 222, 264, 265, 266, 267, 82, 268, 81, 223, 224, 225, 226, 269, 270, 271, 272, 328, 329, 330, 713, 714, 715, 716, 717, 718, 719, 720, 721, 722, 723, 724, 725, 726, 727, 728, 729, 730, 731, 732, 733, 734, 735, 736, 737] (by decide +kernel) (by decide +kernel)
set_option maxRecDepth 20000 in
theorem gL_law_X6_rounds : GoodIn wsL_law (wsV RL 66 RX6 yX6_rounds wsX6_rounds) := goodIn_app (goodIn_of _ (by decide +kernel)) ggL_law_X6_rounds
set_option maxRecDepth 20000 in
theorem ggL_law_X5_guess : GoodIn wsL_law wsX5_guess := goodIn_r _ [351, 16, 148, 149, 150, 15, 151, 40, 352, 353, 354, 355, 34, 709, 710, 711, 712, 738, 739, 740, 741, 742, 743, 744, 745, 746, 747] (by decide +kernel) (by decide +kernel)
set_option maxRecDepth 20000 in
theorem gL_law_X5_guess : GoodIn wsL_law (wsV RL 67 RX5 yX5_guess wsX5_guess) := goodIn_app (goodIn_of _ (by decide +kernel)) ggL_law_X5_guess
set_option maxRecDepth 20000 in
theorem ggL_law_X6_guess : GoodIn wsL_law wsX6_guess := goodIn_r _ [359, 132, 77, 167, 168, 169, 5, 170, 133, 137, 138, 139, 713, 714, 715, 716, 717, 718, 719, 720, 721, 722, 723, 724, 725, 726, 727, 728, 729, 730, 731, 732, 733, 734, 735, 736, 737] (by decide +kernel) (by decide +kernel)
set_option maxRecDepth 20000 in
theorem gL_law_X6_guess : GoodIn wsL_law (wsV RL 70 RX6 yX6_guess wsX6_guess) := goodIn_app (goodIn_of _ (by decide +kernel)) ggL_law_X6_guess
set_option maxRecDepth 20000 in
theorem ggL_law_X5_text : GoodIn wsL_law wsX5_text := goodIn_r _ [363, 20, 152, 153, 2, 154, 105, 106, 107, 364, 365, 366, 19, 367, 50, 368, 369, 370, 371, 46, 709, 710, 711, 712, 748, 749, 750, 751, 752] (by decide +kernel) (by decide +kernel)
set_option maxRecDepth 20000 in
theorem gL_law_X5_text : GoodIn wsL_law (wsV RL 71 RX5 yX5_text wsX5_text) := goodIn_app (goodIn_of _ (by decide +kernel)) ggL_law_X5_text
set_option maxRecDepth 20000 in
theorem ggL_law_X6_text : GoodIn wsL_law wsX6_text := goodIn_r _ [375, 132, 376, 83, 137, 138, 5, 139, 713, 714, 715, 716, 717, 718, 719, 720, 721, 722, 723, 724, 725, 726, 727, 728, 729, 730, 731, 732, 733, 734, 735, 736, 737] (by decide +kernel) (by decide +kernel)
set_option maxRecDepth 20000 in
theorem gL_law_X6_text : GoodIn wsL_law (wsV RL 74 RX6 yX6_text wsX6_text) := goodIn_app (goodIn_of _ (by decide +kernel)) ggL_law_X6_text
set_option maxRecDepth 20000 in
theorem ggL_law_X5_next : GoodIn wsL_law wsX5_next := goodIn_r _ [380, 238, 20, 381, 382, 2, 383, 152, 153, 154, 105, 106, 107, 239, 240, 241, 384, 385, 386, 19, 387, 388, 389, 390, 391, 48, 50, 46, 49, 392, 393, 394, 395, 47, 63, 64, 396, 397, 398, 399, 400, 401, 402, 403, 404, 405, 406, 407, 408, 409, 410, 411, 412, 413, 414, 415, 416, 252, 253, 254, 255, 256, 257, 258, 709, 710, 711, 712, 748, 749, 750, 751, 752] (by decide +kernel) (by decide +kernel)
set_option maxRecDepth 20000 in
theorem gL_law_X5_next : GoodIn wsL_law (wsV RL 75 RX5 yX5_next wsX5_next) := goodIn_app (goodIn_of _ (by decide +kernel)) ggL_law_X5_next
set_option maxRecDepth 20000 in
theorem ggL_law_X6_next : GoodIn wsL_law wsX6_next := goodIn_r _ [420, 132, 263, 85, 421, 422, 423, 5, 424, 137, 138, 139, 425, 426, 427, 428, 429, 430, 431, 432, 376, 83, 268, 433, 434, 435, 436, 84, 437, 438, 439, 440, 441, 273, 274, 275, 276, 277, 278, 713, 714, 715, 716, 717, 718, 719, 720, 721, 722, 723, 724, 725, 726, 727, 728, 729, 730, 731, 732, 733, 734, 735, 736, 737] (by decide +kernel) (by decide +kernel)
set_option maxRecDepth 20000 in
theorem gL_law_X6_next : GoodIn wsL_law (wsV RL 78 RX6 yX6_next wsX6_next) := goodIn_app (goodIn_of _ (by decide +kernel)) ggL_law_X6_next
set_option maxRecDepth 20000 in
theorem ggL_law_X5_likely : GoodIn wsL_law wsX5_likely := goodIn_r _ [445, 20, 381, 382, 2, 383, 152, 153, 154, 105, 106, 107, 384, 385, 386, 19, 387, 388, 389, 390, 391, 48, 50, 46, 49, 392, 393, 394, 395, 47, 63, 64, 396, 397, 398, 399, 400, 401, 402, 403, 404, 405, 406, 407, 408, 446, 447, 448, 449, 709, 710, 711, 712, 748, 749, 750, 751, 752] (by decide +kernel) (by decide +kernel)
set_option maxRecDepth 20000 in
theorem gL_law_X5_likely : GoodIn wsL_law (wsV RL 79 RX5 yX5_likely wsX5_likely) := goodIn_app (goodIn_of _ (by decide +kernel)) ggL_law_X5_likely
set_option maxRecDepth 20000 in
theorem ggL_law_X6_likely : GoodIn wsL_law wsX6_likely := goodIn_r _ [453, 132, 85, 422, 423, 5, 424, 137, 138, 139, 425, 426, 427, 428, 429, 430, 431, 432, 376, 83, 268, 421, 433, 434, 435, 436, 84, 437, 438, 439, 440, 441, 713, 714, 715, 716, 717, 718, 719, 720, 721, 722, 723, 724, 725, 726, 727, 728, 729, 730, 731, 732, 733, 734, 735, 736, 737] (by decide +kernel) (by decide +kernel)
set_option maxRecDepth 20000 in
theorem gL_law_X6_likely : GoodIn wsL_law (wsV RL 82 RX6 yX6_likely wsX6_likely) := goodIn_app (goodIn_of _ (by decide +kernel)) ggL_law_X6_likely
set_option maxRecDepth 20000 in
theorem ggL_law_X5_weigh : GoodIn wsL_law wsX5_weigh := goodIn_r _ [457, 24, 458, 459, 23, 460, 461, 462, 463, 464, 465, 466, 467, 468, 469, 470, 471, 472, 105, 106, 2, 107, 473, 474, 475, 476, 55, 709, 710, 711, 712, 753, 754, 755, 756, 757, 758, 759, 760] (by decide +kernel) (by decide +kernel)
set_option maxRecDepth 20000 in
theorem gL_law_X5_weigh : GoodIn wsL_law (wsV RL 83 RX5 yX5_weigh wsX5_weigh) := goodIn_app (goodIn_of _ (by decide +kernel)) ggL_law_X5_weigh
set_option maxRecDepth 20000 in
theorem ggL_law_X6_weigh : GoodIn wsL_law wsX6_weigh := goodIn_r _ [480, 132, 86, 87, 88, 137, 138, 5, 139, 713, 714, 715, 716, 717, 718, 719, 720, 721, 722, 723, 724, 725, 726, 727, 728, 729, 730, 731, 732, 733, 734, 735, 736, 737] (by decide +kernel) (by decide +kernel)
set_option maxRecDepth 20000 in
theorem gL_law_X6_weigh : GoodIn wsL_law (wsV RL 87 RX6 yX6_weigh wsX6_weigh) := goodIn_app (goodIn_of _ (by decide +kernel)) ggL_law_X6_weigh
set_option maxRecDepth 20000 in
theorem ggL_law_X5_sign : GoodIn wsL_law wsX5_sign := goodIn_r _ [484, 24, 485, 486, 23, 487, 488, 468, 469, 489, 490, 491, 492, 58, 493, 494, 495, 496, 57, 709, 710, 711, 712, 753, 754, 755, 756, 757, 758, 759, 760] (by decide +kernel) (by decide +kernel)
set_option maxRecDepth 20000 in
theorem gL_law_X5_sign : GoodIn wsL_law (wsV RL 88 RX5 yX5_sign wsX5_sign) := goodIn_app (goodIn_of _ (by decide +kernel)) ggL_law_X5_sign
set_option maxRecDepth 20000 in
theorem ggL_law_X6_sign : GoodIn wsL_law wsX6_sign := goodIn_r _ [500, 132, 90, 89, 137, 138, 5, 139, 713, 714, 715, 716, 717, 718, 719, 720, 721, 722, 723, 724, 725, 726, 727, 728, 729, 730, 731, 732, 733, 734, 735, 736, 737] (by decide +kernel) (by decide +kernel)
set_option maxRecDepth 20000 in
theorem gL_law_X6_sign : GoodIn wsL_law (wsV RL 91 RX6 yX6_sign wsX6_sign) := goodIn_app (goodIn_of _ (by decide +kernel)) ggL_law_X6_sign
set_option maxRecDepth 20000 in
theorem ggL_law_X5_path : GoodIn wsL_law wsX5_path := goodIn_r _ [504, 24, 485, 486, 23, 487, 505, 506, 507, 508, 58, 509, 510, 511, 512, 61, 62, 55, 513, 514, 515, 516, 517, 518, 519, 520, 464, 465, 466, 521, 522, 523, 524, 57, 470, 471, 472, 525, 526, 527, 528, 529, 530, 531, 532, 709, 710, 711, 712, 753, 754, 755, 756, 757, 758, 759, 760] (by decide +kernel) (by decide +kernel)
set_option maxRecDepth 20000 in
theorem gL_law_X5_path : GoodIn wsL_law (wsV RL 92 RX5 yX5_path wsX5_path) := goodIn_app (goodIn_of _ (by decide +kernel)) ggL_law_X5_path
set_option maxRecDepth 20000 in
theorem ggL_law_X6_path : GoodIn wsL_law wsX6_path := goodIn_r _ [536, 132, 90, 137, 138, 5, 139, 537, 538, 539, 540, 541, 542, 543, 544, 545, 546, 547, 548, 86, 87, 88, 89, 549, 550, 551, 552, 713, 714, 715, 716, 717, 718, 719, 720, 721, 722, 723, 724, 725, 726, 727, 728, 729, 730, 731, 732, 733, 734, 735, 736, 737] (by decide +kernel) (by decide +kernel)
set_option maxRecDepth 20000 in
theorem gL_law_X6_path : GoodIn wsL_law (wsV RL 95 RX6 yX6_path wsX6_path) := goodIn_app (goodIn_of _ (by decide +kernel)) ggL_law_X6_path
set_option maxRecDepth 20000 in
theorem ggL_law_X5_total : GoodIn wsL_law wsX5_total := goodIn_r _ [556, 24, 238, 485, 486, 23, 487, 557, 558, 559, 560, 561, 562, 563, 564, 58, 59, 55, 60, 521, 522, 523, 524, 57, 470, 471, 472, 565, 566, 567, 568, 464, 465, 466, 709, 710, 711, 712, 753, 754, 755, 756, 757, 758, 759, 760] (by decide +kernel) (by decide +kernel)
set_option maxRecDepth 20000 in
theorem gL_law_X5_total : GoodIn wsL_law (wsV RL 96 RX5 yX5_total wsX5_total) := goodIn_app (goodIn_of _ (by decide +kernel)) ggL_law_X5_total
set_option maxRecDepth 20000 in
theorem ggL_law_X6_total : GoodIn wsL_law wsX6_total := goodIn_r _ [572, 132, 263, 137, 138, 5, 139, 573, 574, 575, 576, 541, 542, 543, 544, 90, 549, 550, 551, 552, 545, 546, 547, 548, 86, 87, 88, 89, 713, 714, 715, 716, 717, 718, 719, 720, 721, 722, 723, 724, 725, 726, 727, 728, 729, 730, 731, 732, 733, 734, 735, 736, 737] (by decide +kernel) (by decide +kernel)
set_option maxRecDepth 20000 in
theorem gL_law_X6_total : GoodIn wsL_law (wsV RL 100 RX6 yX6_total wsX6_total) := goodIn_app (goodIn_of _ (by decide +kernel)) ggL_law_X6_total
set_option maxRecDepth 20000 in
theorem ggL_law_L_at : GoodIn wsL_law wsL_at := goodIn_ca (goodIn_r _ [579, 231, 580, 581, 582, 2, 583, 236, 237, 24, 238, 485, 486, 23, 487, 505, 506, 507, 508, 58, 584, 462, 463, 239, 240, 241, 105, 106, 107, 557, 558, 559, 560, 561, 562, 563, 564, 59, 55, 60, 521, 522, 523, 524, 57, 470, 471, 472, 565, 566, 567, 568, 464, 465, 466, 585, 252, 253, 254, 255, 256, 257, 258, 709, 710, 711, 712, 753, 754, 755, 756, 757, 758, 759, 760] (by decide +kernel) (by decide +kernel)) (goodIn_sub (fun _ h => List.mem_append_right _ h) (by decide +kernel))
set_option maxRecDepth 20000 in
theorem gL_law_L_at : GoodIn wsL_law (va_wsS RL 101 yL_at wsL_at) := goodIn_app (goodIn_of _ (by decide +kernel)) ggL_law_L_at
set_option maxRecDepth 20000 in
theorem ggL_law_X6_at : GoodIn wsL_law wsX6_at := goodIn_r _ [589, 132, 90, 263, 137, 138, 5, 139, 573, 574, 575, 576, 541, 542, 543, 544, 549, 550, 551, 552, 545, 546, 547, 548, 86, 87, 88, 89, 273, 274, 275, 276, 277, 278, 713, 714, 715, 716, 717, 718, 719, 720, 721, 722, 723, 724, 725, 726, 727, 728, 729, 730, 731, 732, 733, 734, 735, 736, 737] (by decide +kernel) (by decide +kernel)
set_option maxRecDepth 20000 in
theorem gL_law_X6_at : GoodIn wsL_law (wsV RL 104 RX6 yX6_at wsX6_at) := goodIn_app (goodIn_of _ (by decide +kernel)) ggL_law_X6_at
set_option maxRecDepth 20000 in
theorem ggL_law_X5_learn : GoodIn wsL_law wsX5_learn := goodIn_r _ [593, 24, 105, 106, 2, 107, 594, 595, 596, 23, 597, 56, 55, 63, 64, 598, 510, 511, 512, 58, 61, 62, 513, 514, 515, 516, 517, 518, 519, 520, 464, 465, 466, 521, 522, 523, 524, 57, 470, 471, 472, 525, 526, 527, 528, 599, 600, 601, 602, 709, 710, 711, 712, 753, 754, 755, 756, 757, 758, 759, 760] (by decide +kernel) (by decide +kernel)
set_option maxRecDepth 20000 in
theorem gL_law_X5_learn : GoodIn wsL_law (wsV RL 105 RX5 yX5_learn wsX5_learn) := goodIn_app (goodIn_of _ (by decide +kernel)) ggL_law_X5_learn
set_option maxRecDepth 20000 in
theorem ggL_law_X6_learn : GoodIn wsL_law wsX6_learn := goodIn_r _ [606, 132, 137, 138, 5, 139, 607, 608, 609, 610, 92, 93, 94, 91, 86, 87, 88, 537, 538, 539, 540, 541, 542, 543, 544, 90, 545, 546, 547, 548, 89, 549, 550, 551, 552, 611, 612, 613, 614, 713, 714, 715, 716, 717, 718, 719, 720, 721, 722, 723, 724, 725, 726, 727, 728, 729, 730, 731, 732, 733, 734, 735, 736, 737] (by decide +kernel) (by decide +kernel)
set_option maxRecDepth 20000 in
theorem gL_law_X6_learn : GoodIn wsL_law (wsV RL 108 RX6 yX6_learn wsX6_learn) := goodIn_app (goodIn_of _ (by decide +kernel)) ggL_law_X6_learn
set_option maxRecDepth 20000 in
theorem ggL_law_X5_rule : GoodIn wsL_law wsX5_rule := goodIn_r _ [618, 28, 16, 105, 106, 2, 107, 619, 620, 621, 27, 622, 68, 69, 71, 63, 64, 623, 624, 625, 15, 626, 40, 627, 628, 629, 630, 35, 36, 631, 632, 633, 634, 635, 636, 637, 638, 639, 640, 641, 642, 643, 644, 645, 646, 70, 647, 648, 649, 650, 651, 652, 653, 654, 655, 253, 254, 255, 256, 257, 258, 709, 710, 711, 712, 761, 762, 763, 764, 738, 739, 740, 741, 742, 743, 744, 745, 746, 747] (by decide +kernel) (by decide +kernel)
set_option maxRecDepth 20000 in
theorem gL_law_X5_rule : GoodIn wsL_law (wsV RL 109 RX5 yX5_rule wsX5_rule) := goodIn_app (goodIn_of _ (by decide +kernel)) ggL_law_X5_rule
set_option maxRecDepth 20000 in
theorem ggL_law_X6_rule : GoodIn wsL_law wsX6_rule := goodIn_r _ [659, 132, 137, 138, 5, 139, 660, 661, 662, 663, 664, 665, 666, 667, 668, 669, 670, 671, 133, 672, 673, 674, 675, 79, 80, 676, 677, 678, 679, 680, 681, 682, 683, 273, 274, 275, 276, 277, 278, 713, 714, 715, 716, 717, 718, 719, 720, 721, 722, 723, 724, 725, 726, 727, 728, 729, 730, 731, 732, 733, 734, 735, 736, 737] (by decide +kernel) (by decide +kernel)
set_option maxRecDepth 20000 in
theorem gL_law_X6_rule : GoodIn wsL_law (wsV RL 112 RX6 yX6_rule wsX6_rule) := goodIn_app (goodIn_of _ (by decide +kernel)) ggL_law_X6_rule
set_option maxRecDepth 20000 in
theorem ggL_law_X5_count : GoodIn wsL_law wsX5_count := goodIn_r _ [687, 16, 20, 28, 24, 688, 624, 625, 15, 626, 40, 689, 690, 691, 692, 33, 693, 694, 695, 19, 696, 50, 619, 620, 621, 27, 622, 68, 69, 71, 63, 2, 64, 623, 627, 628, 629, 630, 35, 36, 631, 632, 633, 634, 635, 636, 637, 638, 639, 640, 641, 642, 643, 644, 645, 646, 70, 697, 698, 699, 700, 701, 702, 703, 23, 704, 58, 709, 710, 711, 712, 738, 739, 740, 741, 742, 743, 744, 745, 746, 747, 748, 749, 750, 751, 752, 761, 762, 763, 764, 753, 754, 755, 756, 757, 758, 759, 760] (by decide +kernel) (by decide +kernel)
set_option maxRecDepth 20000 in
theorem gL_law_X5_count : GoodIn wsL_law (wsV RL 113 RX5 yX5_count wsX5_count) := goodIn_app (goodIn_of _ (by decide +kernel)) ggL_law_X5_count
set_option maxRecDepth 20000 in
theorem ggL_law_X6_count_ : GoodIn wsL_law wsX6_count_ := goodIn_r _ [708, 132, 133, 76, 376, 90, 660, 661, 662, 5, 663, 664, 665, 666, 667, 668, 669, 670, 671, 672, 673, 674, 675, 79, 80, 713, 714, 715, 716, 717, 718, 719, 720, 721, 722, 723, 724, 725, 726, 727, 728, 729, 730, 731, 732, 733, 734, 735, 736, 737] (by decide +kernel) (by decide +kernel)
set_option maxRecDepth 20000 in
theorem gL_law_X6_count_ : GoodIn wsL_law (wsV RL 116 RX6 yX6_count_ wsX6_count_) := goodIn_app (goodIn_of _ (by decide +kernel)) ggL_law_X6_count_
