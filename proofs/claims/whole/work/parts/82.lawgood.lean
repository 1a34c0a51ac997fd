set_option maxRecDepth 20000 in
theorem ggL_law_X6_init : GoodIn wsL_law wsX6_init := goodIn_r _ [9, 10, 11, 12, 13, 14, 15, 16, 17, 18, 19, 20, 21, 22, 23, 24, 25, 26, 27, 28, 29, 30, 31, 32, 33, 34, 35, 36, 37, 38, 39, 40, 41, 42, 43, 44, 45, 46, 47, 48, 49, 50, 51, 52, 53, 54, 55, 56, 6, 57, 58, 59, 60, 61, 62, 63, 64, 65, 66, 67, 68, 69, 70, 71, 72, 73, 74, 75, 76, 77, 78, 79, 80, 81, 82, 83, 84, 85, 2, 86, 87, 88, 89, 90, 91, 92, 93, 94, 95, 96, 97, 98, 99, 100, 101, 102, 103, 104, 105, 106, 107, 108, 109, 110, 111, 112, 113, 114, 115, 116, 117, 118, 119, 120, 121, 122, 123, 124, 125, 126, 127, 128, 129, 130, 131, 132, 805, 806, 807, 808, 809, 810, 811, 812, 813, 780, 781, 782, 783, 784, 785, 814, 815, 816, 817, 818, 819, 820, 821, 822, 823, 824, 825, 826, 827, 828, 829, 830, 831, 832, 833, 834] (by decide +kernel) (by decide +kernel)
set_option maxRecDepth 20000 in
theorem gL_law_X6_init : GoodIn wsL_law (wsX6_init) := ggL_law_X6_init
set_option maxRecDepth 20000 in
theorem ggL_law_X7_init : GoodIn wsL_law wsX7_init := goodIn_r _ [135, 136, 11, 12, 40, 137, 138, 139, 140, 141, 142, 143, 144, 145, 146, 147, 148, 149, 150, 151, 152, 786, 787, 788, 789, 790, 791, 792, 793, 794, 795, 796, 797, 798, 799, 800, 801, 802, 803, 804] (by decide +kernel) (by decide +kernel)
set_option maxRecDepth 20000 in
theorem gL_law_X7_init : GoodIn wsL_law (wsX7_init) := ggL_law_X7_init
set_option maxRecDepth 20000 in
theorem ggL_law_L_setDimension : GoodIn wsL_law wsL_setDimension := goodIn_ca (goodIn_r _ [156, 157, 158, 159, 160, 2, 161, 162, 163, 16, 20, 164, 165, 166, 19, 167, 168, 169, 170, 171, 172, 173, 174, 175, 176, 177, 51, 178, 179, 180, 15, 181, 78, 80, 81, 82, 41, 182, 106, 107, 108, 42, 43, 44, 45, 74, 75, 76, 77, 79, 83, 84, 85, 86, 24, 87, 88, 89, 23, 90, 91, 92, 93, 94, 95, 96, 55, 97, 98, 99, 100, 101, 102, 103, 104, 56, 105, 109, 110, 111, 112, 113, 114, 115, 116, 117, 118, 119, 120, 121, 122, 123, 124, 57, 125, 126, 127, 128, 129, 130, 131, 132, 780, 781, 782, 783, 784, 785, 805, 806, 807, 808, 809, 810, 811, 812, 813, 814, 815, 816, 817, 818, 819, 820, 821] (by decide +kernel) (by decide +kernel)) (goodIn_sub (fun _ h => List.mem_append_left _ (List.mem_append_right _ h)) (by decide +kernel))
set_option maxRecDepth 20000 in
theorem gL_law_L_setDimension : GoodIn wsL_law (va_wsS RL 91 yL_setDimension wsL_setDimension) := goodIn_app (goodIn_of _ (by decide +kernel)) ggL_law_L_setDimension
set_option maxRecDepth 20000 in
theorem ggL_law_X7_setDimension : GoodIn wsL_law wsX7_setDimension := goodIn_r _ [186, 137, 187, 188, 5, 189, 190, 191, 192, 193, 194, 195, 196, 197, 198, 199, 138, 786, 787, 788, 789, 790, 791, 792, 793, 794, 795, 796, 797, 798, 799, 800, 801, 802, 803, 804] (by decide +kernel) (by decide +kernel)
set_option maxRecDepth 20000 in
theorem gL_law_X7_setDimension : GoodIn wsL_law (wsV RL 96 RX7 yX7_setDimension wsX7_setDimension) := goodIn_app (goodIn_of _ (by decide +kernel)) ggL_law_X7_setDimension
set_option maxRecDepth 20000 in
theorem ggL_law_X7_thrown : GoodIn wsL_law wsX7_thrown := goodIn_r _ [203, 194, 786, 787, 788, 789, 790, 791, 792, 793, 794, 795, 796, 797, 798, 799, 800, 801, 802, 803, 804] (by decide +kernel) (by decide +kernel)
set_option maxRecDepth 20000 in
theorem gL_law_X7_thrown : GoodIn wsL_law (wsV RL 97 RX7 yX7_thrown wsX7_thrown) := goodIn_app (goodIn_of _ (by decide +kernel)) ggL_law_X7_thrown
set_option maxRecDepth 20000 in
theorem ggL_law_L_kill : GoodIn wsL_law wsL_kill := goodIn_ca (goodIn_ca (goodIn_r _ [206, 157, 207, 208, 209, 210, 2, 211, 20, 16, 212, 213, 214, 215, 162, 163, 216, 217, 218, 219, 220, 221, 222, 223, 224, 225, 226, 97, 98, 164, 165, 166, 19, 167, 168, 169, 170, 171, 172, 173, 174, 175, 176, 177, 51, 178, 179, 180, 15, 181, 78, 80, 81, 82, 41, 182, 106, 107, 108, 42, 43, 44, 45, 227, 228, 229, 230, 79, 119, 120, 99, 100, 83, 84, 85, 86, 24, 87, 88, 89, 23, 90, 91, 92, 93, 94, 95, 96, 55, 101, 102, 103, 104, 56, 105, 109, 110, 111, 112, 113, 114, 115, 116, 117, 118, 121, 122, 123, 124, 57, 125, 126, 127, 128, 129, 130, 131, 132, 780, 781, 782, 783, 784, 785, 805, 806, 807, 808, 809, 810, 811, 812, 813, 814, 815, 816, 817, 818, 819, 820, 821] (by decide +kernel) (by decide +kernel)) (goodIn_sub (fun _ h => List.mem_append_left _ (List.mem_append_right _ h)) (by decide +kernel))) (goodIn_sub (fun _ h => List.mem_append_right _ h) (by decide +kernel))
set_option maxRecDepth 20000 in
theorem gL_law_L_kill : GoodIn wsL_law (va_wsS RL 100 yL_kill wsL_kill) := goodIn_app (goodIn_of _ (by decide +kernel)) ggL_law_L_kill
set_option maxRecDepth 20000 in
theorem ggL_law_X7_kill : GoodIn wsL_law wsX7_kill := goodIn_r _ [234, 235, 236, 237, 5, 238, 239, 240, 241, 242, 137, 187, 188, 189, 243, 244, 245, 246, 190, 191, 192, 193, 194, 195, 196, 197, 198, 199, 138, 247, 248, 249, 250, 786, 787, 788, 789, 790, 791, 792, 793, 794, 795, 796, 797, 798, 799, 800, 801, 802, 803, 804] (by decide +kernel) (by decide +kernel)
set_option maxRecDepth 20000 in
theorem gL_law_X7_kill : GoodIn wsL_law (wsV RL 102 RX7 yX7_kill wsX7_kill) := goodIn_app (goodIn_of _ (by decide +kernel)) ggL_law_X7_kill
set_option maxRecDepth 20000 in
theorem ggL_law_L_revive : GoodIn wsL_law wsL_revive := goodIn_ca (goodIn_ca (goodIn_r _ [253, 157, 207, 254, 255, 256, 2, 257, 224, 225, 16, 20, 212, 213, 214, 215, 162, 163, 216, 217, 218, 219, 226, 97, 98, 164, 165, 166, 19, 167, 168, 169, 170, 171, 172, 173, 174, 175, 176, 177, 51, 178, 179, 180, 15, 181, 78, 80, 81, 82, 41, 182, 106, 107, 108, 42, 43, 44, 45, 83, 84, 85, 86, 24, 87, 88, 89, 23, 90, 91, 92, 93, 94, 95, 96, 55, 99, 100, 101, 102, 103, 104, 56, 105, 109, 110, 111, 112, 113, 114, 115, 116, 117, 118, 119, 120, 121, 122, 123, 124, 57, 125, 126, 127, 128, 129, 130, 131, 132, 258, 259, 260, 261, 262, 263, 264, 780, 781, 782, 783, 784, 785, 805, 806, 807, 808, 809, 810, 811, 812, 813, 814, 815, 816, 817, 818, 819, 820, 821] (by decide +kernel) (by decide +kernel)) (goodIn_sub (fun _ h => List.mem_append_right _ h) (by decide +kernel))) (goodIn_sub (fun _ h => List.mem_append_left _ (List.mem_append_right _ h)) (by decide +kernel))
set_option maxRecDepth 20000 in
theorem gL_law_L_revive : GoodIn wsL_law (va_wsS RL 103 yL_revive wsL_revive) := goodIn_app (goodIn_of _ (by decide +kernel)) ggL_law_L_revive
set_option maxRecDepth 20000 in
theorem ggL_law_X7_revive : GoodIn wsL_law wsX7_revive := goodIn_r _ [268, 137, 235, 236, 237, 5, 238, 239, 240, 241, 242, 187, 188, 189, 243, 244, 245, 246, 190, 191, 192, 193, 194, 195, 196, 197, 198, 199, 138, 269, 270, 271, 272, 786, 787, 788, 789, 790, 791, 792, 793, 794, 795, 796, 797, 798, 799, 800, 801, 802, 803, 804] (by decide +kernel) (by decide +kernel)
set_option maxRecDepth 20000 in
theorem gL_law_X7_revive : GoodIn wsL_law (wsV RL 105 RX7 yX7_revive wsX7_revive) := goodIn_app (goodIn_of _ (by decide +kernel)) ggL_law_X7_revive
set_option maxRecDepth 20000 in
theorem ggL_law_X6_killAll : GoodIn wsL_law wsX6_killAll := goodIn_r _ [276, 277, 16, 20, 164, 165, 166, 19, 167, 168, 169, 170, 171, 172, 173, 174, 175, 176, 177, 51, 178, 179, 180, 15, 181, 78, 80, 81, 82, 41, 182, 106, 107, 108, 42, 43, 44, 45, 227, 228, 229, 230, 79, 119, 2, 120, 97, 98, 99, 100, 83, 84, 85, 86, 24, 87, 88, 89, 23, 90, 91, 92, 93, 94, 95, 96, 55, 101, 102, 103, 104, 56, 105, 109, 110, 111, 112, 113, 114, 115, 116, 117, 118, 121, 122, 123, 124, 57, 125, 126, 127, 128, 129, 130, 131, 132, 258, 259, 260, 261, 262, 263, 264, 780, 781, 782, 783, 784, 785, 805, 806, 807, 808, 809, 810, 811, 812, 813, 814, 815, 816, 817, 818, 819, 820, 821] (by decide +kernel) (by decide +kernel)
set_option maxRecDepth 20000 in
theorem gL_law_X6_killAll : GoodIn wsL_law (wsV RL 106 RX6 yX6_killAll wsX6_killAll) := goodIn_app (goodIn_of _ (by decide +kernel)) ggL_law_X6_killAll
set_option maxRecDepth 20000 in
theorem ggL_law_X7_killAll : GoodIn wsL_law wsX7_killAll := goodIn_r _ [281, 194, 195, 196, 197, 5, 198, 199, 138, 137, 239, 240, 241, 242, 243, 244, 245, 246, 247, 248, 249, 250, 786, 787, 788, 789, 790, 791, 792, 793, 794, 795, 796, 797, 798, 799, 800, 801, 802, 803, 804] (by decide +kernel) (by decide +kernel)
set_option maxRecDepth 20000 in
theorem gL_law_X7_killAll : GoodIn wsL_law (wsV RL 109 RX7 yX7_killAll wsX7_killAll) := goodIn_app (goodIn_of _ (by decide +kernel)) ggL_law_X7_killAll
set_option maxRecDepth 20000 in
theorem ggL_law_L_isAlive : GoodIn wsL_law wsL_isAlive := goodIn_ca (goodIn_r _ [284, 157, 285, 286, 287, 2, 288, 16, 212, 213, 214, 215, 162, 163, 216, 217, 218, 219, 226, 97, 98, 780, 781, 782, 783, 784, 785, 805, 806, 807, 808, 809, 810, 811, 812, 813] (by decide +kernel) (by decide +kernel)) (goodIn_sub (fun _ h => List.mem_append_left _ (List.mem_append_right _ h)) (by decide +kernel))
set_option maxRecDepth 20000 in
theorem gL_law_L_isAlive : GoodIn wsL_law (va_wsS RL 110 yL_isAlive wsL_isAlive) := goodIn_app (goodIn_of _ (by decide +kernel)) ggL_law_L_isAlive
set_option maxRecDepth 20000 in
theorem ggL_law_X7_isAlive : GoodIn wsL_law wsX7_isAlive := goodIn_r _ [292, 235, 236, 237, 5, 238, 239, 240, 241, 242, 137, 187, 188, 189, 190, 191, 192, 193, 194, 243, 244, 245, 246, 786, 787, 788, 789, 790, 791, 792, 793, 794, 795, 796, 797, 798, 799, 800, 801, 802, 803, 804] (by decide +kernel) (by decide +kernel)
set_option maxRecDepth 20000 in
theorem gL_law_X7_isAlive : GoodIn wsL_law (wsV RL 112 RX7 yX7_isAlive wsX7_isAlive) := goodIn_app (goodIn_of _ (by decide +kernel)) ggL_law_X7_isAlive
set_option maxRecDepth 20000 in
theorem ggL_law_L_distance : GoodIn wsL_law wsL_distance := goodIn_ca (goodIn_r _ [295, 157, 296, 297, 298, 2, 299, 212, 213, 214, 215, 162, 163, 216, 217, 218, 219, 16, 300, 301, 302, 303, 304, 305, 306, 780, 781, 782, 783, 784, 785, 805, 806, 807, 808, 809, 810, 811, 812, 813] (by decide +kernel) (by decide +kernel)) (goodIn_sub (fun _ h => List.mem_append_left _ (List.mem_append_right _ h)) (by decide +kernel))
set_option maxRecDepth 20000 in
theorem gL_law_L_distance : GoodIn wsL_law (va_wsS RL 113 yL_distance wsL_distance) := goodIn_app (goodIn_of _ (by decide +kernel)) ggL_law_L_distance
set_option maxRecDepth 20000 in
theorem ggL_law_X7_distance : GoodIn wsL_law wsX7_distance := goodIn_r _ [310, 235, 236, 237, 5, 238, 239, 240, 241, 242, 137, 187, 188, 189, 190, 191, 192, 193, 194, 311, 312, 313, 786, 787, 788, 789, 790, 791, 792, 793, 794, 795, 796, 797, 798, 799, 800, 801, 802, 803, 804] (by decide +kernel) (by decide +kernel)
set_option maxRecDepth 20000 in
theorem gL_law_X7_distance : GoodIn wsL_law (wsV RL 116 RX7 yX7_distance wsX7_distance) := goodIn_app (goodIn_of _ (by decide +kernel)) ggL_law_X7_distance
set_option maxRecDepth 20000 in
theorem ggL_law_L_shortest : GoodIn wsL_law wsL_shortest := goodIn_ca (goodIn_ca (goodIn_r _ [316, 157, 207, 317, 318, 319, 2, 320, 16, 321, 322, 323, 324, 212, 213, 214, 215, 162, 163, 216, 217, 218, 219, 220, 221, 222, 223, 224, 225, 226, 97, 98, 325, 326, 327, 328, 329, 330, 331, 780, 781, 782, 783, 784, 785, 805, 806, 807, 808, 809, 810, 811, 812, 813] (by decide +kernel) (by decide +kernel)) (goodIn_sub (fun _ h => List.mem_append_left _ (List.mem_append_right _ h)) (by decide +kernel))) (goodIn_sub (fun _ h => List.mem_append_right _ h) (by decide +kernel))
set_option maxRecDepth 20000 in
theorem gL_law_L_shortest : GoodIn wsL_law (va_wsS RL 117 yL_shortest wsL_shortest) := goodIn_app (goodIn_of _ (by decide +kernel)) ggL_law_L_shortest
set_option maxRecDepth 20000 in
theorem ggL_law_X7_shortest : GoodIn wsL_law wsX7_shortest := goodIn_r _ [335, 140, 139, 137, 336, 337, 338, 5, 339, 235, 236, 237, 238, 239, 240, 241, 242, 187, 188, 189, 243, 244, 245, 246, 190, 191, 192, 193, 194, 786, 787, 788, 789, 790, 791, 792, 793, 794, 795, 796, 797, 798, 799, 800, 801, 802, 803, 804] (by decide +kernel) (by decide +kernel)
set_option maxRecDepth 20000 in
theorem gL_law_X7_shortest : GoodIn wsL_law (wsV RL 119 RX7 yX7_shortest wsX7_shortest) := goodIn_app (goodIn_of _ (by decide +kernel)) ggL_law_X7_shortest
set_option maxRecDepth 20000 in
theorem ggL_law_L_level : GoodIn wsL_law wsL_level := goodIn_ca (goodIn_r _ [342, 157, 343, 344, 345, 2, 346, 24, 212, 213, 214, 215, 162, 163, 216, 217, 218, 219, 16, 347, 348, 349, 23, 350, 55, 119, 120, 780, 781, 782, 783, 784, 785, 805, 806, 807, 808, 809, 810, 811, 812, 813, 817, 818, 819, 820, 821] (by decide +kernel) (by decide +kernel)) (goodIn_sub (fun _ h => List.mem_append_left _ (List.mem_append_right _ h)) (by decide +kernel))
set_option maxRecDepth 20000 in
theorem gL_law_L_level : GoodIn wsL_law (va_wsS RL 120 yL_level wsL_level) := goodIn_app (goodIn_of _ (by decide +kernel)) ggL_law_L_level
set_option maxRecDepth 20000 in
theorem ggL_law_X7_level : GoodIn wsL_law wsX7_level := goodIn_r _ [354, 141, 235, 236, 237, 5, 238, 239, 240, 241, 242, 137, 187, 188, 189, 190, 191, 192, 193, 194, 355, 356, 357, 358, 142, 243, 244, 245, 246, 359, 360, 361, 362, 143, 786, 787, 788, 789, 790, 791, 792, 793, 794, 795, 796, 797, 798, 799, 800, 801, 802, 803, 804] (by decide +kernel) (by decide +kernel)
set_option maxRecDepth 20000 in
theorem gL_law_X7_level : GoodIn wsL_law (wsV RL 122 RX7 yX7_level wsX7_level) := goodIn_app (goodIn_of _ (by decide +kernel)) ggL_law_X7_level
set_option maxRecDepth 20000 in
theorem ggL_law_X6_rounds : GoodIn wsL_law wsX6_rounds := goodIn_r _ [366, 24, 780, 781, 782, 783, 784, 785, 817, 818, 819, 820, 821] (by decide +kernel) (by decide +kernel)
set_option maxRecDepth 20000 in
theorem gL_law_X6_rounds : GoodIn wsL_law (wsV RL 123 RX6 yX6_rounds wsX6_rounds) := goodIn_app (goodIn_of _ (by decide +kernel)) ggL_law_X6_rounds
set_option maxRecDepth 20000 in
theorem ggL_law_X7_rounds : GoodIn wsL_law wsX7_rounds := goodIn_r _ [370, 194, 355, 356, 357, 5, 358, 141, 137, 142, 239, 240, 241, 242, 243, 244, 245, 246, 359, 360, 361, 362, 143, 786, 787, 788, 789, 790, 791, 792, 793, 794, 795, 796, 797, 798, 799, 800, 801, 802, 803, 804] (by decide +kernel) (by decide +kernel)
set_option maxRecDepth 20000 in
theorem gL_law_X7_rounds : GoodIn wsL_law (wsV RL 126 RX7 yX7_rounds wsX7_rounds) := goodIn_app (goodIn_of _ (by decide +kernel)) ggL_law_X7_rounds
set_option maxRecDepth 20000 in
theorem ggL_law_X6_safeNodes : GoodIn wsL_law wsX6_safeNodes := goodIn_r _ [374, 24, 16, 216, 217, 218, 2, 219, 347, 348, 349, 23, 350, 55, 119, 120, 780, 781, 782, 783, 784, 785, 805, 806, 807, 808, 809, 810, 811, 812, 813, 817, 818, 819, 820, 821] (by decide +kernel) (by decide +kernel)
set_option maxRecDepth 20000 in
theorem gL_law_X6_safeNodes : GoodIn wsL_law (wsV RL 127 RX6 yX6_safeNodes wsX6_safeNodes) := goodIn_app (goodIn_of _ (by decide +kernel)) ggL_law_X6_safeNodes
set_option maxRecDepth 20000 in
theorem ggL_law_X7_safeNodes : GoodIn wsL_law wsX7_safeNodes := goodIn_r _ [378, 194, 379, 380, 381, 5, 382, 141, 137, 355, 356, 357, 358, 142, 239, 240, 241, 242, 243, 244, 245, 246, 359, 360, 361, 362, 143, 786, 787, 788, 789, 790, 791, 792, 793, 794, 795, 796, 797, 798, 799, 800, 801, 802, 803, 804] (by decide +kernel) (by decide +kernel)
set_option maxRecDepth 20000 in
theorem gL_law_X7_safeNodes : GoodIn wsL_law (wsV RL 130 RX7 yX7_safeNodes wsX7_safeNodes) := goodIn_app (goodIn_of _ (by decide +kernel)) ggL_law_X7_safeNodes
set_option maxRecDepth 20000 in
theorem ggL_law_L_vectorBit : GoodIn wsL_law wsL_vectorBit := goodIn_ca (goodIn_r _ [385, 157, 386, 387, 388, 2, 389, 162, 163, 16, 24, 212, 213, 214, 215, 216, 217, 218, 219, 390, 391, 392, 23, 393, 57, 97, 98, 780, 781, 782, 783, 784, 785, 805, 806, 807, 808, 809, 810, 811, 812, 813, 817, 818, 819, 820, 821] (by decide +kernel) (by decide +kernel)) (goodIn_sub (fun _ h => List.mem_append_left _ (List.mem_append_right _ h)) (by decide +kernel))
set_option maxRecDepth 20000 in
theorem gL_law_L_vectorBit : GoodIn wsL_law (va_wsS RL 131 yL_vectorBit wsL_vectorBit) := goodIn_app (goodIn_of _ (by decide +kernel)) ggL_law_L_vectorBit
set_option maxRecDepth 20000 in
theorem ggL_law_X7_vectorBit : GoodIn wsL_law wsX7_vectorBit := goodIn_r _ [397, 137, 144, 235, 236, 237, 5, 238, 239, 240, 241, 242, 187, 188, 189, 190, 191, 192, 193, 194, 398, 399, 400, 401, 243, 244, 245, 246, 786, 787, 788, 789, 790, 791, 792, 793, 794, 795, 796, 797, 798, 799, 800, 801, 802, 803, 804] (by decide +kernel) (by decide +kernel)
set_option maxRecDepth 20000 in
theorem gL_law_X7_vectorBit : GoodIn wsL_law (wsV RL 133 RX7 yX7_vectorBit wsX7_vectorBit) := goodIn_app (goodIn_of _ (by decide +kernel)) ggL_law_X7_vectorBit
set_option maxRecDepth 20000 in
theorem ggL_law_L_decide : GoodIn wsL_law wsL_decide := goodIn_ca (goodIn_ca (goodIn_r _ [404, 157, 207, 405, 406, 407, 2, 408, 321, 322, 323, 324, 212, 213, 214, 215, 162, 163, 216, 217, 218, 219, 16, 220, 221, 222, 223, 224, 225, 226, 97, 98, 409, 410, 411, 412, 24, 300, 301, 302, 303, 304, 305, 306, 347, 348, 349, 23, 350, 55, 119, 120, 413, 414, 415, 416, 417, 418, 419, 420, 91, 421, 422, 117, 118, 423, 424, 425, 426, 427, 780, 781, 782, 783, 784, 785, 805, 806, 807, 808, 809, 810, 811, 812, 813, 817, 818, 819, 820, 821] (by decide +kernel) (by decide +kernel)) (goodIn_sub (fun _ h => List.mem_append_left _ (List.mem_append_right _ h)) (by decide +kernel))) (goodIn_sub (fun _ h => List.mem_append_right _ h) (by decide +kernel))
set_option maxRecDepth 20000 in
theorem gL_law_L_decide : GoodIn wsL_law (va_wsS RL 134 yL_decide wsL_decide) := goodIn_app (goodIn_of _ (by decide +kernel)) ggL_law_L_decide
set_option maxRecDepth 20000 in
theorem ggL_law_X7_decide : GoodIn wsL_law wsX7_decide := goodIn_r _ [431, 336, 337, 338, 5, 339, 235, 236, 237, 238, 239, 240, 241, 242, 137, 187, 188, 189, 243, 244, 245, 246, 190, 191, 192, 193, 194, 355, 356, 357, 358, 141, 142, 359, 360, 361, 362, 143, 432, 433, 434, 435, 311, 312, 313, 436, 437, 438, 439, 440, 441, 442, 443, 786, 787, 788, 789, 790, 791, 792, 793, 794, 795, 796, 797, 798, 799, 800, 801, 802, 803, 804] (by decide +kernel) (by decide +kernel)
set_option maxRecDepth 20000 in
theorem gL_law_X7_decide : GoodIn wsL_law (wsV RL 136 RX7 yX7_decide wsX7_decide) := goodIn_app (goodIn_of _ (by decide +kernel)) ggL_law_X7_decide
set_option maxRecDepth 20000 in
theorem ggL_law_L_routeLength : GoodIn wsL_law wsL_routeLength := goodIn_ca (goodIn_ca (goodIn_r _ [446, 157, 207, 447, 448, 449, 2, 450, 321, 322, 323, 324, 212, 213, 214, 215, 162, 163, 216, 217, 218, 219, 16, 220, 221, 222, 223, 224, 225, 226, 97, 98, 451, 452, 453, 454, 409, 410, 411, 412, 24, 300, 301, 302, 303, 304, 305, 306, 347, 348, 349, 23, 350, 55, 119, 120, 413, 414, 415, 416, 417, 418, 419, 420, 91, 421, 422, 117, 118, 423, 424, 425, 426, 427, 780, 781, 782, 783, 784, 785, 805, 806, 807, 808, 809, 810, 811, 812, 813, 817, 818, 819, 820, 821] (by decide +kernel) (by decide +kernel)) (goodIn_sub (fun _ h => List.mem_append_left _ (List.mem_append_right _ h)) (by decide +kernel))) (goodIn_sub (fun _ h => List.mem_append_right _ h) (by decide +kernel))
set_option maxRecDepth 20000 in
theorem gL_law_L_routeLength : GoodIn wsL_law (va_wsS RL 137 yL_routeLength wsL_routeLength) := goodIn_app (goodIn_of _ (by decide +kernel)) ggL_law_L_routeLength
set_option maxRecDepth 20000 in
theorem ggL_law_X7_routeLength : GoodIn wsL_law wsX7_routeLength := goodIn_r _ [458, 336, 337, 338, 5, 339, 235, 236, 237, 238, 239, 240, 241, 242, 137, 187, 188, 189, 243, 244, 245, 246, 190, 191, 192, 193, 194, 355, 356, 357, 358, 141, 142, 359, 360, 361, 362, 143, 459, 460, 461, 462, 432, 433, 434, 435, 311, 312, 313, 436, 437, 438, 439, 440, 441, 442, 443, 786, 787, 788, 789, 790, 791, 792, 793, 794, 795, 796, 797, 798, 799, 800, 801, 802, 803, 804] (by decide +kernel) (by decide +kernel)
set_option maxRecDepth 20000 in
theorem gL_law_X7_routeLength : GoodIn wsL_law (wsV RL 139 RX7 yX7_routeLength wsX7_routeLength) := goodIn_app (goodIn_of _ (by decide +kernel)) ggL_law_X7_routeLength
set_option maxRecDepth 20000 in
theorem ggL_law_L_routeNode : GoodIn wsL_law wsL_routeNode := goodIn_ca (goodIn_ca (goodIn_r _ [465, 157, 207, 466, 467, 468, 2, 469, 162, 163, 212, 213, 214, 215, 216, 217, 218, 219, 16, 220, 221, 222, 223, 224, 225, 226, 97, 98, 451, 452, 453, 454, 409, 410, 411, 412, 24, 300, 301, 302, 303, 304, 305, 306, 347, 348, 349, 23, 350, 55, 119, 120, 413, 414, 415, 416, 417, 418, 419, 420, 91, 421, 422, 117, 118, 423, 424, 425, 426, 427, 470, 471, 472, 473, 474, 475, 780, 781, 782, 783, 784, 785, 805, 806, 807, 808, 809, 810, 811, 812, 813, 817, 818, 819, 820, 821] (by decide +kernel) (by decide +kernel)) (goodIn_sub (fun _ h => List.mem_append_left _ (List.mem_append_right _ h)) (by decide +kernel))) (goodIn_sub (fun _ h => List.mem_append_right _ h) (by decide +kernel))
set_option maxRecDepth 20000 in
theorem gL_law_L_routeNode : GoodIn wsL_law (va_wsS RL 140 yL_routeNode wsL_routeNode) := goodIn_app (goodIn_of _ (by decide +kernel)) ggL_law_L_routeNode
set_option maxRecDepth 20000 in
theorem ggL_law_X7_routeNode : GoodIn wsL_law wsX7_routeNode := goodIn_r _ [479, 336, 337, 338, 5, 339, 235, 236, 237, 238, 239, 240, 241, 242, 137, 187, 188, 189, 243, 244, 245, 246, 190, 191, 192, 193, 194, 355, 356, 357, 358, 141, 142, 359, 360, 361, 362, 143, 459, 460, 461, 462, 432, 433, 434, 435, 311, 312, 313, 436, 437, 438, 439, 440, 441, 442, 443, 786, 787, 788, 789, 790, 791, 792, 793, 794, 795, 796, 797, 798, 799, 800, 801, 802, 803, 804] (by decide +kernel) (by decide +kernel)
set_option maxRecDepth 20000 in
theorem gL_law_X7_routeNode : GoodIn wsL_law (wsV RL 143 RX7 yX7_routeNode wsX7_routeNode) := goodIn_app (goodIn_of _ (by decide +kernel)) ggL_law_X7_routeNode
set_option maxRecDepth 20000 in
theorem ggL_law_L_reach : GoodIn wsL_law wsL_reach := goodIn_ca (goodIn_ca (goodIn_r _ [482, 157, 207, 483, 484, 485, 2, 486, 162, 163, 16, 212, 213, 214, 215, 216, 217, 218, 219, 220, 221, 222, 223, 224, 225, 226, 97, 98, 409, 410, 411, 412, 24, 300, 301, 302, 303, 304, 305, 306, 347, 348, 349, 23, 350, 55, 119, 120, 413, 414, 415, 416, 417, 418, 419, 420, 91, 421, 422, 117, 118, 423, 424, 425, 426, 427, 780, 781, 782, 783, 784, 785, 805, 806, 807, 808, 809, 810, 811, 812, 813, 817, 818, 819, 820, 821] (by decide +kernel) (by decide +kernel)) (goodIn_sub (fun _ h => List.mem_append_left _ (List.mem_append_right _ h)) (by decide +kernel))) (goodIn_sub (fun _ h => List.mem_append_right _ h) (by decide +kernel))
set_option maxRecDepth 20000 in
theorem gL_law_L_reach : GoodIn wsL_law (va_wsS RL 144 yL_reach wsL_reach) := goodIn_app (goodIn_of _ (by decide +kernel)) ggL_law_L_reach
set_option maxRecDepth 20000 in
theorem ggL_law_X7_reach : GoodIn wsL_law wsX7_reach := goodIn_r _ [490, 235, 236, 237, 5, 238, 239, 240, 241, 242, 137, 187, 188, 189, 243, 244, 245, 246, 190, 191, 192, 193, 194, 355, 356, 357, 358, 141, 142, 359, 360, 361, 362, 143, 432, 433, 434, 435, 311, 312, 313, 436, 437, 438, 439, 440, 441, 442, 443, 786, 787, 788, 789, 790, 791, 792, 793, 794, 795, 796, 797, 798, 799, 800, 801, 802, 803, 804] (by decide +kernel) (by decide +kernel)
set_option maxRecDepth 20000 in
theorem gL_law_X7_reach : GoodIn wsL_law (wsV RL 146 RX7 yX7_reach wsX7_reach) := goodIn_app (goodIn_of _ (by decide +kernel)) ggL_law_X7_reach
set_option maxRecDepth 20000 in
theorem ggL_law_L_broadcastTime : GoodIn wsL_law wsL_broadcastTime := goodIn_ca (goodIn_ca (goodIn_r _ [493, 157, 207, 494, 495, 496, 2, 497, 28, 16, 24, 212, 213, 214, 215, 162, 163, 216, 217, 218, 219, 220, 221, 222, 223, 224, 225, 226, 97, 98, 498, 499, 500, 27, 501, 61, 502, 63, 503, 504, 127, 505, 506, 425, 426, 23, 427, 91, 507, 508, 509, 510, 62, 99, 100, 119, 120, 511, 512, 513, 514, 515, 418, 419, 420, 421, 422, 117, 118, 423, 348, 349, 350, 55, 516, 517, 518, 519, 520, 780, 781, 782, 783, 784, 785, 805, 806, 807, 808, 809, 810, 811, 812, 813, 822, 823, 824, 825, 817, 818, 819, 820, 821] (by decide +kernel) (by decide +kernel)) (goodIn_sub (fun _ h => List.mem_append_left _ (List.mem_append_right _ h)) (by decide +kernel))) (goodIn_sub (fun _ h => List.mem_append_right _ h) (by decide +kernel))
set_option maxRecDepth 20000 in
theorem gL_law_L_broadcastTime : GoodIn wsL_law (va_wsS RL 147 yL_broadcastTime wsL_broadcastTime) := goodIn_app (goodIn_of _ (by decide +kernel)) ggL_law_L_broadcastTime
set_option maxRecDepth 20000 in
theorem ggL_law_X7_broadcastTime : GoodIn wsL_law wsX7_broadcastTime := goodIn_r _ [524, 140, 235, 236, 237, 5, 238, 239, 240, 241, 242, 137, 187, 188, 189, 243, 244, 245, 246, 190, 191, 192, 193, 194, 525, 526, 527, 528, 139, 145, 355, 356, 357, 358, 141, 142, 359, 360, 361, 362, 143, 436, 437, 438, 439, 786, 787, 788, 789, 790, 791, 792, 793, 794, 795, 796, 797, 798, 799, 800, 801, 802, 803, 804] (by decide +kernel) (by decide +kernel)
set_option maxRecDepth 20000 in
theorem gL_law_X7_broadcastTime : GoodIn wsL_law (wsV RL 149 RX7 yX7_broadcastTime wsX7_broadcastTime) := goodIn_app (goodIn_of _ (by decide +kernel)) ggL_law_X7_broadcastTime
set_option maxRecDepth 20000 in
theorem ggL_law_L_broadcastSize : GoodIn wsL_law wsL_broadcastSize := goodIn_ca (goodIn_ca (goodIn_r _ [531, 157, 207, 532, 533, 534, 2, 535, 28, 16, 24, 212, 213, 214, 215, 162, 163, 216, 217, 218, 219, 220, 221, 222, 223, 224, 225, 226, 97, 98, 498, 499, 500, 27, 501, 61, 502, 63, 503, 504, 127, 505, 506, 425, 426, 23, 427, 91, 507, 508, 509, 510, 62, 99, 100, 119, 120, 511, 512, 513, 514, 515, 418, 419, 420, 421, 422, 117, 118, 423, 348, 349, 350, 55, 516, 517, 518, 519, 780, 781, 782, 783, 784, 785, 805, 806, 807, 808, 809, 810, 811, 812, 813, 822, 823, 824, 825, 817, 818, 819, 820, 821] (by decide +kernel) (by decide +kernel)) (goodIn_sub (fun _ h => List.mem_append_left _ (List.mem_append_right _ h)) (by decide +kernel))) (goodIn_sub (fun _ h => List.mem_append_right _ h) (by decide +kernel))
set_option maxRecDepth 20000 in
theorem gL_law_L_broadcastSize : GoodIn wsL_law (va_wsS RL 150 yL_broadcastSize wsL_broadcastSize) := goodIn_app (goodIn_of _ (by decide +kernel)) ggL_law_L_broadcastSize
set_option maxRecDepth 20000 in
theorem ggL_law_X7_broadcastSize : GoodIn wsL_law wsX7_broadcastSize := goodIn_r _ [539, 235, 236, 237, 5, 238, 239, 240, 241, 242, 137, 187, 188, 189, 243, 244, 245, 246, 190, 191, 192, 193, 194, 525, 526, 527, 528, 140, 139, 145, 355, 356, 357, 358, 141, 142, 359, 360, 361, 362, 143, 436, 437, 438, 439, 786, 787, 788, 789, 790, 791, 792, 793, 794, 795, 796, 797, 798, 799, 800, 801, 802, 803, 804] (by decide +kernel) (by decide +kernel)
set_option maxRecDepth 20000 in
theorem gL_law_X7_broadcastSize : GoodIn wsL_law (wsV RL 152 RX7 yX7_broadcastSize wsX7_broadcastSize) := goodIn_app (goodIn_of _ (by decide +kernel)) ggL_law_X7_broadcastSize
set_option maxRecDepth 20000 in
theorem ggL_law_L_freeSubcubes : GoodIn wsL_law wsL_freeSubcubes := goodIn_ca (goodIn_r _ [542, 157, 543, 544, 545, 2, 546, 162, 163, 16, 216, 217, 218, 219, 300, 301, 302, 303, 304, 305, 306, 547, 548, 549, 550, 551, 421, 422, 328, 329, 330, 331, 258, 259, 260, 261, 262, 263, 264, 780, 781, 782, 783, 784, 785, 805, 806, 807, 808, 809, 810, 811, 812, 813] (by decide +kernel) (by decide +kernel)) (goodIn_sub (fun _ h => List.mem_append_left _ (List.mem_append_right _ h)) (by decide +kernel))
set_option maxRecDepth 20000 in
theorem gL_law_L_freeSubcubes : GoodIn wsL_law (va_wsS RL 153 yL_freeSubcubes wsL_freeSubcubes) := goodIn_app (goodIn_of _ (by decide +kernel)) ggL_law_L_freeSubcubes
set_option maxRecDepth 20000 in
theorem ggL_law_X7_freeSubcubes : GoodIn wsL_law wsX7_freeSubcubes := goodIn_r _ [555, 137, 187, 188, 5, 189, 190, 191, 192, 193, 194, 239, 240, 241, 242, 556, 557, 558, 311, 312, 313, 559, 560, 561, 562, 243, 244, 245, 246, 786, 787, 788, 789, 790, 791, 792, 793, 794, 795, 796, 797, 798, 799, 800, 801, 802, 803, 804] (by decide +kernel) (by decide +kernel)
set_option maxRecDepth 20000 in
theorem gL_law_X7_freeSubcubes : GoodIn wsL_law (wsV RL 155 RX7 yX7_freeSubcubes wsX7_freeSubcubes) := goodIn_app (goodIn_of _ (by decide +kernel)) ggL_law_X7_freeSubcubes
set_option maxRecDepth 20000 in
theorem ggL_law_X6_largestSubcube : GoodIn wsL_law wsX6_largestSubcube := goodIn_r _ [566, 216, 217, 218, 2, 219, 16, 547, 548, 549, 550, 551, 421, 422, 328, 329, 330, 331, 300, 301, 302, 303, 304, 305, 306, 567, 568, 569, 258, 259, 260, 261, 262, 263, 264, 780, 781, 782, 783, 784, 785, 805, 806, 807, 808, 809, 810, 811, 812, 813] (by decide +kernel) (by decide +kernel)
set_option maxRecDepth 20000 in
theorem gL_law_X6_largestSubcube : GoodIn wsL_law (wsV RL 156 RX6 yX6_largestSubcube wsX6_largestSubcube) := goodIn_app (goodIn_of _ (by decide +kernel)) ggL_law_X6_largestSubcube
set_option maxRecDepth 20000 in
theorem ggL_law_X7_largestSubcube : GoodIn wsL_law wsX7_largestSubcube := goodIn_r _ [573, 194, 574, 575, 576, 5, 577, 239, 240, 241, 242, 137, 556, 557, 558, 311, 312, 313, 559, 560, 561, 562, 243, 244, 245, 246, 786, 787, 788, 789, 790, 791, 792, 793, 794, 795, 796, 797, 798, 799, 800, 801, 802, 803, 804] (by decide +kernel) (by decide +kernel)
set_option maxRecDepth 20000 in
theorem gL_law_X7_largestSubcube : GoodIn wsL_law (wsV RL 159 RX7 yX7_largestSubcube wsX7_largestSubcube) := goodIn_app (goodIn_of _ (by decide +kernel)) ggL_law_X7_largestSubcube
set_option maxRecDepth 20000 in
theorem ggL_law_L_disjointPaths : GoodIn wsL_law wsL_disjointPaths := goodIn_ca (goodIn_ca (goodIn_r _ [580, 157, 207, 581, 582, 583, 2, 584, 162, 163, 32, 16, 212, 213, 214, 215, 216, 217, 218, 219, 220, 221, 222, 223, 224, 225, 226, 97, 98, 585, 586, 587, 31, 588, 589, 590, 591, 592, 67, 593, 504, 127, 505, 594, 595, 596, 597, 68, 598, 69, 599, 600, 601, 602, 603, 604, 605, 119, 120, 99, 100, 606, 607, 608, 609, 610, 611, 612, 117, 118, 421, 422, 613, 614, 615, 616, 617, 618, 619, 620, 780, 781, 782, 783, 784, 785, 805, 806, 807, 808, 809, 810, 811, 812, 813, 826, 827, 828, 829, 830, 831, 832, 833] (by decide +kernel) (by decide +kernel)) (goodIn_sub (fun _ h => List.mem_append_left _ (List.mem_append_right _ h)) (by decide +kernel))) (goodIn_sub (fun _ h => List.mem_append_right _ h) (by decide +kernel))
set_option maxRecDepth 20000 in
theorem gL_law_L_disjointPaths : GoodIn wsL_law (va_wsS RL 160 yL_disjointPaths wsL_disjointPaths) := goodIn_app (goodIn_of _ (by decide +kernel)) ggL_law_L_disjointPaths
set_option maxRecDepth 20000 in
theorem ggL_law_X7_disjointPaths : GoodIn wsL_law wsX7_disjointPaths := goodIn_r _ [624, 146, 147, 148, 336, 337, 338, 5, 339, 235, 236, 237, 238, 239, 240, 241, 242, 137, 187, 188, 189, 243, 244, 245, 246, 190, 191, 192, 193, 194, 625, 626, 627, 628, 629, 149, 630, 631, 632, 633, 634, 635, 636, 637, 150, 786, 787, 788, 789, 790, 791, 792, 793, 794, 795, 796, 797, 798, 799, 800, 801, 802, 803, 804] (by decide +kernel) (by decide +kernel)
set_option maxRecDepth 20000 in
theorem gL_law_X7_disjointPaths : GoodIn wsL_law (wsV RL 162 RX7 yX7_disjointPaths wsX7_disjointPaths) := goodIn_app (goodIn_of _ (by decide +kernel)) ggL_law_X7_disjointPaths
set_option maxRecDepth 20000 in
theorem ggL_law_L_send : GoodIn wsL_law wsL_send := goodIn_ca (goodIn_ca (goodIn_r _ [640, 157, 207, 641, 642, 643, 2, 644, 224, 225, 16, 20, 321, 322, 323, 324, 212, 213, 214, 215, 162, 163, 216, 217, 218, 219, 220, 221, 222, 223, 226, 97, 98, 164, 165, 166, 19, 167, 168, 169, 170, 171, 172, 173, 174, 175, 176, 177, 51, 178, 179, 180, 15, 181, 78, 80, 81, 82, 41, 182, 106, 107, 108, 42, 43, 44, 45, 645, 646, 647, 648, 99, 100, 780, 781, 782, 783, 784, 785, 805, 806, 807, 808, 809, 810, 811, 812, 813, 814, 815, 816] (by decide +kernel) (by decide +kernel)) (goodIn_sub (fun _ h => List.mem_append_right _ h) (by decide +kernel))) (goodIn_sub (fun _ h => List.mem_append_left _ (List.mem_append_right _ h)) (by decide +kernel))
set_option maxRecDepth 20000 in
theorem gL_law_L_send : GoodIn wsL_law (va_wsS RL 163 yL_send wsL_send) := goodIn_app (goodIn_of _ (by decide +kernel)) ggL_law_L_send
set_option maxRecDepth 20000 in
theorem ggL_law_X7_send : GoodIn wsL_law wsX7_send := goodIn_r _ [652, 137, 336, 337, 338, 5, 339, 235, 236, 237, 238, 239, 240, 241, 242, 187, 188, 189, 243, 244, 245, 246, 190, 191, 192, 193, 194, 195, 196, 197, 198, 199, 138, 786, 787, 788, 789, 790, 791, 792, 793, 794, 795, 796, 797, 798, 799, 800, 801, 802, 803, 804] (by decide +kernel) (by decide +kernel)
set_option maxRecDepth 20000 in
theorem gL_law_X7_send : GoodIn wsL_law (wsV RL 165 RX7 yX7_send wsX7_send) := goodIn_app (goodIn_of _ (by decide +kernel)) ggL_law_X7_send
set_option maxRecDepth 20000 in
theorem ggL_law_L_step : GoodIn wsL_law wsL_step := goodIn_ca (goodIn_r _ [655, 157, 656, 657, 658, 2, 659, 162, 163, 20, 16, 36, 24, 164, 165, 166, 19, 167, 168, 169, 170, 171, 172, 173, 174, 175, 176, 177, 51, 178, 179, 180, 15, 181, 78, 80, 81, 82, 41, 182, 106, 107, 108, 42, 43, 44, 45, 660, 661, 662, 35, 663, 73, 664, 504, 127, 505, 119, 120, 665, 666, 667, 668, 669, 414, 415, 23, 416, 417, 418, 419, 420, 91, 421, 422, 117, 118, 423, 348, 349, 350, 55, 670, 425, 426, 427, 671, 99, 100, 672, 673, 674, 675, 780, 781, 782, 783, 784, 785, 814, 815, 816, 805, 806, 807, 808, 809, 810, 811, 812, 813, 834, 817, 818, 819, 820, 821] (by decide +kernel) (by decide +kernel)) (goodIn_sub (fun _ h => List.mem_append_left _ (List.mem_append_right _ h)) (by decide +kernel))
set_option maxRecDepth 20000 in
theorem gL_law_L_step : GoodIn wsL_law (va_wsS RL 166 yL_step wsL_step) := goodIn_app (goodIn_of _ (by decide +kernel)) ggL_law_L_step
set_option maxRecDepth 20000 in
theorem ggL_law_X7_step : GoodIn wsL_law wsX7_step := goodIn_r _ [679, 152, 137, 187, 188, 5, 189, 190, 191, 192, 193, 194, 195, 196, 197, 198, 199, 138, 355, 356, 357, 358, 141, 142, 239, 240, 241, 242, 243, 244, 245, 246, 359, 360, 361, 362, 143, 680, 681, 682, 683, 436, 437, 438, 439, 440, 441, 442, 443, 786, 787, 788, 789, 790, 791, 792, 793, 794, 795, 796, 797, 798, 799, 800, 801, 802, 803, 804] (by decide +kernel) (by decide +kernel)
set_option maxRecDepth 20000 in
theorem gL_law_X7_step : GoodIn wsL_law (wsV RL 168 RX7 yX7_step wsX7_step) := goodIn_app (goodIn_of _ (by decide +kernel)) ggL_law_X7_step
set_option maxRecDepth 20000 in
theorem ggL_law_L_state : GoodIn wsL_law wsL_state := goodIn_ca (goodIn_r _ [686, 157, 687, 688, 689, 2, 690, 16, 691, 692, 693, 694, 162, 163, 695, 119, 120, 780, 781, 782, 783, 784, 785, 805, 806, 807, 808, 809, 810, 811, 812, 813] (by decide +kernel) (by decide +kernel)) (goodIn_sub (fun _ h => List.mem_append_left _ (List.mem_append_right _ h)) (by decide +kernel))
set_option maxRecDepth 20000 in
theorem gL_law_L_state : GoodIn wsL_law (va_wsS RL 169 yL_state wsL_state) := goodIn_app (goodIn_of _ (by decide +kernel)) ggL_law_L_state
set_option maxRecDepth 20000 in
theorem ggL_law_X7_state : GoodIn wsL_law wsX7_state := goodIn_r _ [699, 700, 701, 702, 5, 703, 137, 187, 188, 189, 190, 191, 192, 193, 194, 786, 787, 788, 789, 790, 791, 792, 793, 794, 795, 796, 797, 798, 799, 800, 801, 802, 803, 804] (by decide +kernel) (by decide +kernel)
set_option maxRecDepth 20000 in
theorem gL_law_X7_state : GoodIn wsL_law (wsV RL 171 RX7 yX7_state wsX7_state) := goodIn_app (goodIn_of _ (by decide +kernel)) ggL_law_X7_state
set_option maxRecDepth 20000 in
theorem ggL_law_L_position : GoodIn wsL_law wsL_position := goodIn_ca (goodIn_r _ [706, 157, 707, 708, 709, 2, 710, 16, 691, 692, 693, 694, 162, 163, 695, 119, 120, 780, 781, 782, 783, 784, 785, 805, 806, 807, 808, 809, 810, 811, 812, 813] (by decide +kernel) (by decide +kernel)) (goodIn_sub (fun _ h => List.mem_append_left _ (List.mem_append_right _ h)) (by decide +kernel))
set_option maxRecDepth 20000 in
theorem gL_law_L_position : GoodIn wsL_law (va_wsS RL 172 yL_position wsL_position) := goodIn_app (goodIn_of _ (by decide +kernel)) ggL_law_L_position
set_option maxRecDepth 20000 in
theorem ggL_law_X7_position : GoodIn wsL_law wsX7_position := goodIn_r _ [714, 700, 701, 702, 5, 703, 137, 187, 188, 189, 190, 191, 192, 193, 194, 786, 787, 788, 789, 790, 791, 792, 793, 794, 795, 796, 797, 798, 799, 800, 801, 802, 803, 804] (by decide +kernel) (by decide +kernel)
set_option maxRecDepth 20000 in
theorem gL_law_X7_position : GoodIn wsL_law (wsV RL 174 RX7 yX7_position wsX7_position) := goodIn_app (goodIn_of _ (by decide +kernel)) ggL_law_X7_position
set_option maxRecDepth 20000 in
theorem ggL_law_L_moves : GoodIn wsL_law wsL_moves := goodIn_ca (goodIn_r _ [717, 157, 718, 719, 720, 2, 721, 16, 691, 692, 693, 694, 162, 163, 695, 119, 120, 780, 781, 782, 783, 784, 785, 805, 806, 807, 808, 809, 810, 811, 812, 813] (by decide +kernel) (by decide +kernel)) (goodIn_sub (fun _ h => List.mem_append_left _ (List.mem_append_right _ h)) (by decide +kernel))
set_option maxRecDepth 20000 in
theorem gL_law_L_moves : GoodIn wsL_law (va_wsS RL 175 yL_moves wsL_moves) := goodIn_app (goodIn_of _ (by decide +kernel)) ggL_law_L_moves
set_option maxRecDepth 20000 in
theorem ggL_law_X7_moves : GoodIn wsL_law wsX7_moves := goodIn_r _ [725, 700, 701, 702, 5, 703, 137, 187, 188, 189, 190, 191, 192, 193, 194, 786, 787, 788, 789, 790, 791, 792, 793, 794, 795, 796, 797, 798, 799, 800, 801, 802, 803, 804] (by decide +kernel) (by decide +kernel)
set_option maxRecDepth 20000 in
theorem gL_law_X7_moves : GoodIn wsL_law (wsV RL 177 RX7 yX7_moves wsX7_moves) := goodIn_app (goodIn_of _ (by decide +kernel)) ggL_law_X7_moves
set_option maxRecDepth 20000 in
theorem ggL_law_L_count : GoodIn wsL_law wsL_count := goodIn_ca (goodIn_r _ [728, 157, 729, 730, 731, 2, 732, 162, 163, 16, 695, 119, 120, 780, 781, 782, 783, 784, 785, 805, 806, 807, 808, 809, 810, 811, 812, 813] (by decide +kernel) (by decide +kernel)) (goodIn_sub (fun _ h => List.mem_append_left _ (List.mem_append_right _ h)) (by decide +kernel))
set_option maxRecDepth 20000 in
theorem gL_law_L_count : GoodIn wsL_law (va_wsS RL 178 yL_count wsL_count) := goodIn_app (goodIn_of _ (by decide +kernel)) ggL_law_L_count
set_option maxRecDepth 20000 in
theorem ggL_law_X7_count : GoodIn wsL_law wsX7_count := goodIn_r _ [736, 137, 187, 188, 5, 189, 190, 191, 192, 193, 194, 786, 787, 788, 789, 790, 791, 792, 793, 794, 795, 796, 797, 798, 799, 800, 801, 802, 803, 804] (by decide +kernel) (by decide +kernel)
set_option maxRecDepth 20000 in
theorem gL_law_X7_count : GoodIn wsL_law (wsV RL 180 RX7 yX7_count wsX7_count) := goodIn_app (goodIn_of _ (by decide +kernel)) ggL_law_X7_count
set_option maxRecDepth 20000 in
theorem ggL_law_L_undo : GoodIn wsL_law wsL_undo := goodIn_ca (goodIn_r _ [739, 207, 740, 741, 742, 2, 743, 224, 225, 20, 16, 744, 745, 746, 19, 747, 168, 169, 174, 175, 176, 177, 51, 178, 179, 180, 15, 181, 78, 80, 81, 82, 41, 182, 106, 107, 108, 42, 43, 44, 45, 83, 84, 85, 86, 24, 87, 88, 89, 23, 90, 91, 92, 93, 94, 95, 96, 55, 97, 98, 99, 100, 101, 102, 103, 104, 56, 105, 109, 110, 111, 112, 113, 114, 115, 116, 117, 118, 119, 120, 121, 122, 123, 124, 57, 125, 126, 127, 128, 129, 130, 131, 132, 780, 781, 782, 783, 784, 785, 814, 815, 816, 805, 806, 807, 808, 809, 810, 811, 812, 813, 817, 818, 819, 820, 821] (by decide +kernel) (by decide +kernel)) (goodIn_sub (fun _ h => List.mem_append_right _ h) (by decide +kernel))
set_option maxRecDepth 20000 in
theorem gL_law_L_undo : GoodIn wsL_law (va_wsS RL 181 yL_undo wsL_undo) := goodIn_app (goodIn_of _ (by decide +kernel)) ggL_law_L_undo
set_option maxRecDepth 20000 in
theorem ggL_law_X7_undo : GoodIn wsL_law wsX7_undo := goodIn_r _ [751, 199, 137, 138, 190, 191, 192, 5, 193, 194, 786, 787, 788, 789, 790, 791, 792, 793, 794, 795, 796, 797, 798, 799, 800, 801, 802, 803, 804] (by decide +kernel) (by decide +kernel)
set_option maxRecDepth 20000 in
theorem gL_law_X7_undo : GoodIn wsL_law (wsV RL 184 RX7 yX7_undo wsX7_undo) := goodIn_app (goodIn_of _ (by decide +kernel)) ggL_law_X7_undo
set_option maxRecDepth 20000 in
theorem ggL_law_X6_digest : GoodIn wsL_law wsX6_digest := goodIn_r _ [755, 756, 757, 20, 16, 758, 364, 365, 2, 366, 24, 759, 372, 373, 374, 216, 217, 218, 219, 347, 348, 349, 23, 350, 55, 119, 120, 760, 564, 565, 566, 547, 548, 549, 550, 551, 421, 422, 328, 329, 330, 331, 300, 301, 302, 303, 304, 305, 306, 567, 568, 569, 258, 259, 260, 261, 262, 263, 264, 761, 762, 763, 764, 390, 391, 392, 393, 57, 97, 98, 765, 766, 767, 768, 695, 780, 781, 782, 783, 784, 785, 814, 815, 816, 805, 806, 807, 808, 809, 810, 811, 812, 813, 817, 818, 819, 820, 821] (by decide +kernel) (by decide +kernel)
set_option maxRecDepth 20000 in
theorem gL_law_X6_digest : GoodIn wsL_law (wsV RL 185 RX6 yX6_digest wsX6_digest) := goodIn_app (goodIn_of _ (by decide +kernel)) ggL_law_X6_digest
set_option maxRecDepth 20000 in
theorem ggL_law_X7_digest : GoodIn wsL_law wsX7_digest := goodIn_r _ [772, 194, 773, 774, 199, 137, 141, 144, 775, 776, 777, 5, 778, 779, 355, 356, 357, 358, 142, 239, 240, 241, 242, 243, 244, 245, 246, 359, 360, 361, 362, 143, 379, 380, 381, 382, 574, 575, 576, 577, 556, 557, 558, 311, 312, 313, 559, 560, 561, 562, 398, 399, 400, 401, 786, 787, 788, 789, 790, 791, 792, 793, 794, 795, 796, 797, 798, 799, 800, 801, 802, 803, 804] (by decide +kernel) (by decide +kernel)
set_option maxRecDepth 20000 in
theorem gL_law_X7_digest : GoodIn wsL_law (wsV RL 189 RX7 yX7_digest wsX7_digest) := goodIn_app (goodIn_of _ (by decide +kernel)) ggL_law_X7_digest
