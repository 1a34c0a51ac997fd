theorem goodIn_cc {big a : List Cond} {c : Cond} (h1 : GoodIn big [c]) (h2 : GoodIn big a) : GoodIn big (c :: a) := fun w h => (List.mem_cons.mp h).elim (fun e => h1 w (List.mem_singleton.mpr e)) (h2 w)
set_option maxRecDepth 20000 in
theorem gc_wsX6_init_r1 : GoodIn wsL_law wsX6_init_r1 := goodIn_r _ [7, 8, 9, 10, 11, 12, 13, 14, 15, 16, 17, 18, 19, 20, 21, 22, 23, 24, 25, 26, 27, 28, 29, 30] rfl (by decide +kernel)
set_option maxRecDepth 20000 in
theorem gc_wsX6_init_r2 : GoodIn wsL_law wsX6_init_r2 := goodIn_r _ [31, 32, 33, 34, 35, 36, 3, 37, 38, 39, 40, 41, 42, 43, 44, 45, 46, 47, 48, 49, 50, 51, 52, 53] rfl (by decide +kernel)
set_option maxRecDepth 20000 in
theorem gc_wsX6_init_r3 : GoodIn wsL_law wsX6_init_r3 := goodIn_r _ [54, 55, 56, 57, 58, 59, 60, 61, 62, 63, 64, 65, 66, 67, 68, 69, 70, 71, 72, 73, 74, 75, 76, 77] rfl (by decide +kernel)
set_option maxRecDepth 20000 in
theorem gc_wsX6_init_r4 : GoodIn wsL_law wsX6_init_r4 := goodIn_r _ [78, 79, 80, 81, 82, 2, 83, 84, 85, 86, 87, 88, 89, 90, 91, 92, 93, 94, 95, 96, 97, 98, 99, 100] rfl (by decide +kernel)
set_option maxRecDepth 20000 in
theorem gc_wsX6_init_r5 : GoodIn wsL_law wsX6_init_r5 := goodIn_r _ [101, 102, 103, 104, 105, 106, 107, 108, 109, 110, 111, 112, 113, 114, 115, 116, 117, 118, 119, 120, 121, 122, 123, 124] rfl (by decide +kernel)
set_option maxRecDepth 20000 in
theorem gc_wsX6_init_r6 : GoodIn wsL_law wsX6_init_r6 := goodIn_r _ [125, 126, 127, 128, 129] rfl (by decide +kernel)
set_option maxRecDepth 20000 in
theorem ggL_law_X6_init : GoodIn wsL_law wsX6_init := (goodIn_cc (goodIn_r _ [6] rfl (by decide +kernel)) (goodIn_app (goodIn_app (goodIn_app (goodIn_app (goodIn_app (goodIn_app (goodIn_app (goodIn_app gc_wsX6_init_r1 (goodIn_app gc_wsX6_init_r2 (goodIn_app gc_wsX6_init_r3 (goodIn_app gc_wsX6_init_r4 (goodIn_app gc_wsX6_init_r5 (gc_wsX6_init_r6)))))) (goodIn_sub inlX3 (by decide +kernel))) (goodIn_sub inlX6 (by decide +kernel))) (goodIn_sub inlX5 (by decide +kernel))) (goodIn_sub inlX2 (by decide +kernel))) (goodIn_sub inlX0 (by decide +kernel))) (goodIn_sub inlX1 (by decide +kernel))) (goodIn_sub inlX4 (by decide +kernel))))
set_option maxRecDepth 20000 in
theorem gL_law_X6_init : GoodIn wsL_law (wsX6_init) := ggL_law_X6_init
set_option maxRecDepth 20000 in
theorem ggL_law_L_cell : GoodIn wsL_law wsL_cell := goodIn_r _ [133, 134] rfl (by decide +kernel)
set_option maxRecDepth 20000 in
theorem gL_law_L_cell : GoodIn wsL_law (va_wsS RL 160 yL_cell wsL_cell) := goodIn_app (goodIn_of _ (by decide +kernel)) ggL_law_L_cell
set_option maxRecDepth 20000 in
theorem ggL_law_L_low : GoodIn wsL_law wsL_low := goodIn_r _ [137, 138] rfl (by decide +kernel)
set_option maxRecDepth 20000 in
theorem gL_law_L_low : GoodIn wsL_law (va_wsS RL 164 yL_low wsL_low) := goodIn_app (goodIn_of _ (by decide +kernel)) ggL_law_L_low
set_option maxRecDepth 20000 in
theorem gc_wsL_undo_r1 : GoodIn wsL_law wsL_undo_r1 := goodIn_r _ [142, 143, 144, 145, 2, 146, 147, 148, 17, 13, 149, 150, 151, 16, 152, 153, 154, 155, 156, 157, 158, 47, 159, 160] rfl (by decide +kernel)
set_option maxRecDepth 20000 in
theorem gc_wsL_undo_r2 : GoodIn wsL_law wsL_undo_r2 := goodIn_r _ [161, 12, 162, 75, 77, 78, 79, 37, 163, 103, 104, 105, 38, 39, 40, 41, 80, 81, 82, 83, 21, 84, 85, 86] rfl (by decide +kernel)
set_option maxRecDepth 20000 in
theorem gc_wsL_undo_r3 : GoodIn wsL_law wsL_undo_r3 := goodIn_r _ [20, 87, 88, 89, 90, 91, 92, 93, 51, 94, 95, 96, 97, 98, 99, 100, 101, 52, 102, 106, 107, 108, 109, 110] rfl (by decide +kernel)
set_option maxRecDepth 20000 in
theorem gc_wsL_undo_r4 : GoodIn wsL_law wsL_undo_r4 := goodIn_r _ [111, 112, 113, 114, 115, 116, 117, 118, 119, 120, 121, 54, 122, 123, 124, 125, 126, 127, 128, 129] rfl (by decide +kernel)
set_option maxRecDepth 20000 in
theorem ggL_law_L_undo : GoodIn wsL_law wsL_undo := goodIn_ca ((goodIn_cc (goodIn_r _ [141] rfl (by decide +kernel)) (goodIn_app (goodIn_app (goodIn_app (goodIn_app (goodIn_app gc_wsL_undo_r1 (goodIn_app gc_wsL_undo_r2 (goodIn_app gc_wsL_undo_r3 (gc_wsL_undo_r4)))) (goodIn_sub inlX6 (by decide +kernel))) (goodIn_sub inlX5 (by decide +kernel))) (goodIn_sub inlX3 (by decide +kernel))) (goodIn_sub inlX2 (by decide +kernel))))) (goodIn_sub (fun _ h => List.mem_append_left _ (List.mem_append_right _ h)) (by decide +kernel))
set_option maxRecDepth 20000 in
theorem gL_law_L_undo : GoodIn wsL_law (va_wsS RL 167 yL_undo wsL_undo) := goodIn_app (goodIn_of _ (by decide +kernel)) ggL_law_L_undo
set_option maxRecDepth 20000 in
theorem gc_wsL_setDimension_r1 : GoodIn wsL_law wsL_setDimension_r1 := goodIn_r _ [167, 168, 169, 170, 2, 171, 172, 173, 13, 17, 174, 175, 176, 16, 177, 153, 154, 178, 179, 180, 181, 155, 156, 157] rfl (by decide +kernel)
set_option maxRecDepth 20000 in
theorem gc_wsL_setDimension_r2 : GoodIn wsL_law wsL_setDimension_r2 := goodIn_r _ [158, 47, 159, 160, 161, 12, 162, 75, 77, 78, 79, 37, 163, 103, 104, 105, 38, 39, 40, 41, 71, 72, 73, 74] rfl (by decide +kernel)
set_option maxRecDepth 20000 in
theorem gc_wsL_setDimension_r3 : GoodIn wsL_law wsL_setDimension_r3 := goodIn_r _ [76, 80, 81, 82, 83, 21, 84, 85, 86, 20, 87, 88, 89, 90, 91, 92, 93, 51, 94, 95, 96, 97, 98, 99] rfl (by decide +kernel)
set_option maxRecDepth 20000 in
theorem gc_wsL_setDimension_r4 : GoodIn wsL_law wsL_setDimension_r4 := goodIn_r _ [100, 101, 52, 102, 106, 107, 108, 109, 110, 111, 112, 113, 114, 115, 116, 117, 118, 119, 120, 121, 54, 122, 123, 124] rfl (by decide +kernel)
set_option maxRecDepth 20000 in
theorem gc_wsL_setDimension_r5 : GoodIn wsL_law wsL_setDimension_r5 := goodIn_r _ [125, 126, 127, 128, 129] rfl (by decide +kernel)
set_option maxRecDepth 20000 in
theorem ggL_law_L_setDimension : GoodIn wsL_law wsL_setDimension := goodIn_ca ((goodIn_cc (goodIn_r _ [166] rfl (by decide +kernel)) (goodIn_app (goodIn_app (goodIn_app (goodIn_app (goodIn_app gc_wsL_setDimension_r1 (goodIn_app gc_wsL_setDimension_r2 (goodIn_app gc_wsL_setDimension_r3 (goodIn_app gc_wsL_setDimension_r4 (gc_wsL_setDimension_r5))))) (goodIn_sub inlX6 (by decide +kernel))) (goodIn_sub inlX3 (by decide +kernel))) (goodIn_sub inlX5 (by decide +kernel))) (goodIn_sub inlX2 (by decide +kernel))))) (goodIn_sub (fun _ h => List.mem_append_right _ h) (by decide +kernel))
set_option maxRecDepth 20000 in
theorem gL_law_L_setDimension : GoodIn wsL_law (va_wsS RL 147 yL_setDimension wsL_setDimension) := goodIn_app (goodIn_of _ (by decide +kernel)) ggL_law_L_setDimension
set_option maxRecDepth 20000 in
theorem gc_wsL_refused_r1 : GoodIn wsL_law wsL_refused_r1 := goodIn_r _ [185, 186, 132, 187, 188, 189, 190, 191, 2, 192, 21, 193, 194, 195, 196, 13, 197, 198, 199, 200, 201, 202, 203, 20] rfl (by decide +kernel)
set_option maxRecDepth 20000 in
theorem gc_wsL_refused_r2 : GoodIn wsL_law wsL_refused_r2 := goodIn_r _ [204, 51, 116, 117, 205, 206, 207, 208, 209, 210, 211, 212, 213, 214, 215, 216, 217, 218, 219, 220, 221, 222, 223, 224] rfl (by decide +kernel)
set_option maxRecDepth 20000 in
theorem gc_wsL_refused_r3 : GoodIn wsL_law wsL_refused_r3 := goodIn_r _ [225, 226, 227, 228, 229, 230, 231, 232, 233, 234, 235, 236, 237, 238, 239, 167, 240, 241, 242, 243, 244, 245, 246, 247] rfl (by decide +kernel)
set_option maxRecDepth 20000 in
theorem gc_wsL_refused_r4 : GoodIn wsL_law wsL_refused_r4 := goodIn_r _ [172, 173, 248, 249, 250, 251, 252, 253, 254, 255, 256, 257, 258, 259, 260, 261, 262, 263, 264, 265, 266, 267, 268, 269] rfl (by decide +kernel)
set_option maxRecDepth 20000 in
theorem gc_wsL_refused_r5 : GoodIn wsL_law wsL_refused_r5 := goodIn_r _ [270, 271, 272, 273, 164, 165, 166, 168, 169, 170, 171, 17, 174, 175, 176, 16, 177, 153, 154, 178, 179, 180, 181, 155] rfl (by decide +kernel)
set_option maxRecDepth 20000 in
theorem gc_wsL_refused_r6 : GoodIn wsL_law wsL_refused_r6 := goodIn_r _ [156, 157, 158, 47, 159, 160, 161, 12, 162, 75, 77, 78, 79, 37, 163, 103, 104, 105, 38, 39, 40, 41, 71, 72] rfl (by decide +kernel)
set_option maxRecDepth 20000 in
theorem gc_wsL_refused_r7 : GoodIn wsL_law wsL_refused_r7 := goodIn_r _ [73, 74, 76, 80, 81, 82, 83, 84, 85, 86, 87, 88, 89, 90, 91, 92, 93, 94, 95, 96, 97, 98, 99, 100] rfl (by decide +kernel)
set_option maxRecDepth 20000 in
theorem gc_wsL_refused_r8 : GoodIn wsL_law wsL_refused_r8 := goodIn_r _ [101, 52, 102, 106, 107, 108, 109, 110, 111, 112, 113, 114, 115, 118, 119, 120, 121, 54, 122, 123, 124, 125, 126, 127] rfl (by decide +kernel)
set_option maxRecDepth 20000 in
theorem gc_wsL_refused_r9 : GoodIn wsL_law wsL_refused_r9 := goodIn_r _ [128, 129, 274, 275, 276, 142, 277, 278, 279, 280, 281, 282, 283, 284, 147, 148, 285, 286, 287, 288, 289, 290, 291, 292] rfl (by decide +kernel)
set_option maxRecDepth 20000 in
theorem gc_wsL_refused_r10 : GoodIn wsL_law wsL_refused_r10 := goodIn_r _ [293, 294, 295, 296, 297, 298, 299, 300, 301, 302, 303, 304, 305, 306, 307, 308, 309, 310, 311, 312, 313, 314, 315, 316] rfl (by decide +kernel)
set_option maxRecDepth 20000 in
theorem gc_wsL_refused_r11 : GoodIn wsL_law wsL_refused_r11 := goodIn_r _ [317, 318, 319, 320, 321, 322, 323, 324, 325, 326, 327, 328, 329, 330, 331, 332, 333, 334, 335, 336, 337, 338, 339, 340] rfl (by decide +kernel)
set_option maxRecDepth 20000 in
theorem gc_wsL_refused_r12 : GoodIn wsL_law wsL_refused_r12 := goodIn_r _ [341, 342, 343, 344, 345, 346, 347, 348, 349, 350, 351, 352, 353, 354, 355, 356, 357, 358, 359, 360, 361, 362, 363, 364] rfl (by decide +kernel)
set_option maxRecDepth 20000 in
theorem gc_wsL_refused_r13 : GoodIn wsL_law wsL_refused_r13 := goodIn_r _ [365, 366, 367, 368, 369, 29, 370, 371, 372, 28, 373, 374, 375, 376, 377, 64, 378, 379, 380, 381, 382, 383, 384, 65] rfl (by decide +kernel)
set_option maxRecDepth 20000 in
theorem gc_wsL_refused_r14 : GoodIn wsL_law wsL_refused_r14 := goodIn_r _ [385, 66, 386, 387, 388, 389, 390, 391, 392, 393, 394, 395, 396, 397, 398, 399, 400, 401, 402, 403, 404, 405, 406, 407] rfl (by decide +kernel)
set_option maxRecDepth 20000 in
theorem gc_wsL_refused_r15 : GoodIn wsL_law wsL_refused_r15 := goodIn_r _ [408, 409, 410, 411, 412, 413, 414, 415, 416, 417, 418, 419, 420, 421, 422, 423, 424, 425, 426, 427, 428, 429, 33, 430] rfl (by decide +kernel)
set_option maxRecDepth 20000 in
theorem gc_wsL_refused_r16 : GoodIn wsL_law wsL_refused_r16 := goodIn_r _ [431, 432, 32, 433, 70, 434, 435, 436, 437, 438, 439, 440, 441, 442, 443, 444, 445, 446, 447, 448, 449, 450, 451, 452] rfl (by decide +kernel)
set_option maxRecDepth 20000 in
theorem ggL_law_L_refused : GoodIn wsL_law wsL_refused := goodIn_ca (goodIn_ca ((goodIn_cc (goodIn_r _ [184] rfl (by decide +kernel)) (goodIn_app (goodIn_app (goodIn_app (goodIn_app (goodIn_app (goodIn_app (goodIn_app gc_wsL_refused_r1 (goodIn_app gc_wsL_refused_r2 (goodIn_app gc_wsL_refused_r3 (goodIn_app gc_wsL_refused_r4 (goodIn_app gc_wsL_refused_r5 (goodIn_app gc_wsL_refused_r6 (goodIn_app gc_wsL_refused_r7 (goodIn_app gc_wsL_refused_r8 (goodIn_app gc_wsL_refused_r9 (goodIn_app gc_wsL_refused_r10 (goodIn_app gc_wsL_refused_r11 (goodIn_app gc_wsL_refused_r12 (goodIn_app gc_wsL_refused_r13 (goodIn_app gc_wsL_refused_r14 (goodIn_app gc_wsL_refused_r15 (gc_wsL_refused_r16)))))))))))))))) (goodIn_sub inlX6 (by decide +kernel))) (goodIn_sub inlX2 (by decide +kernel))) (goodIn_sub inlX3 (by decide +kernel))) (goodIn_sub inlX5 (by decide +kernel))) (goodIn_sub inlX1 (by decide +kernel))) (goodIn_sub inlX4 (by decide +kernel))))) (goodIn_sub (fun _ h => List.mem_append_right _ h) (by decide +kernel))) (goodIn_sub (fun _ h => List.mem_append_left _ (List.mem_append_right _ h)) (by decide +kernel))
set_option maxRecDepth 20000 in
theorem gL_law_L_refused : GoodIn wsL_law (va_wsS RL 170 yL_refused wsL_refused) := goodIn_app (goodIn_of _ (by decide +kernel)) ggL_law_L_refused
set_option maxRecDepth 20000 in
theorem gc_wsL_print_r1 : GoodIn wsL_law wsL_print_r1 := goodIn_r _ [188, 189, 190, 191, 2, 192, 21, 193, 194, 195, 196, 13, 197, 198, 199, 200, 201, 202, 203, 20, 204, 51, 116, 117] rfl (by decide +kernel)
set_option maxRecDepth 20000 in
theorem gc_wsL_print_r2 : GoodIn wsL_law wsL_print_r2 := goodIn_r _ [205, 206, 207, 208, 209, 210, 211, 212, 213, 214, 215, 216, 217, 218, 219, 220, 221, 222, 223, 224, 225, 226, 227, 228] rfl (by decide +kernel)
set_option maxRecDepth 20000 in
theorem gc_wsL_print_r3 : GoodIn wsL_law wsL_print_r3 := goodIn_r _ [229, 230, 231, 232, 233, 234, 235, 236, 237, 238, 132, 239, 167, 240, 241, 242, 243, 244, 245, 246, 247, 172, 173, 248] rfl (by decide +kernel)
set_option maxRecDepth 20000 in
theorem gc_wsL_print_r4 : GoodIn wsL_law wsL_print_r4 := goodIn_r _ [249, 250, 251, 252, 253, 254, 255, 256, 257, 258, 259, 260, 261, 262, 263, 264, 265, 266, 267, 268, 269, 270, 271, 272] rfl (by decide +kernel)
set_option maxRecDepth 20000 in
theorem gc_wsL_print_r5 : GoodIn wsL_law wsL_print_r5 := goodIn_r _ [273] rfl (by decide +kernel)
set_option maxRecDepth 20000 in
theorem ggL_law_L_print : GoodIn wsL_law wsL_print := goodIn_ca ((goodIn_cc (goodIn_r _ [187] rfl (by decide +kernel)) (goodIn_app (goodIn_app (goodIn_app (goodIn_app gc_wsL_print_r1 (goodIn_app gc_wsL_print_r2 (goodIn_app gc_wsL_print_r3 (goodIn_app gc_wsL_print_r4 (gc_wsL_print_r5))))) (goodIn_sub inlX6 (by decide +kernel))) (goodIn_sub inlX2 (by decide +kernel))) (goodIn_sub inlX3 (by decide +kernel))))) (goodIn_sub (fun _ h => List.mem_append_right _ h) (by decide +kernel))
set_option maxRecDepth 20000 in
theorem gL_law_L_print : GoodIn wsL_law (va_wsS RL 143 yL_print wsL_print) := goodIn_app (goodIn_of _ (by decide +kernel)) ggL_law_L_print
set_option maxRecDepth 20000 in
theorem ggL_law_L_isAlive : GoodIn wsL_law wsL_isAlive := goodIn_ca (goodIn_r _ [455, 167, 456, 457, 458, 2, 459, 13, 244, 245, 246, 247, 172, 173, 197, 198, 199, 200, 285, 94, 95, 540, 541, 542, 543, 544, 545, 546, 547, 548, 549, 550, 551, 552, 553, 554] rfl (by decide +kernel)) (goodIn_sub (fun _ h => List.mem_append_right _ h) (by decide +kernel))
set_option maxRecDepth 20000 in
theorem gL_law_L_isAlive : GoodIn wsL_law (va_wsS RL 97 yL_isAlive wsL_isAlive) := goodIn_app (goodIn_of _ (by decide +kernel)) ggL_law_L_isAlive
set_option maxRecDepth 20000 in
theorem gc_wsL_kill_r1 : GoodIn wsL_law wsL_kill_r1 := goodIn_r _ [167, 142, 277, 278, 279, 2, 280, 17, 13, 244, 245, 246, 247, 172, 173, 197, 198, 199, 200, 281, 282, 283, 284, 147] rfl (by decide +kernel)
set_option maxRecDepth 20000 in
theorem gc_wsL_kill_r2 : GoodIn wsL_law wsL_kill_r2 := goodIn_r _ [148, 285, 94, 95, 174, 175, 176, 16, 177, 153, 154, 178, 179, 180, 181, 155, 156, 157, 158, 47, 159, 160, 161, 12] rfl (by decide +kernel)
set_option maxRecDepth 20000 in
theorem gc_wsL_kill_r3 : GoodIn wsL_law wsL_kill_r3 := goodIn_r _ [162, 75, 77, 78, 79, 37, 163, 103, 104, 105, 38, 39, 40, 41, 286, 287, 288, 289, 76, 116, 117, 96, 97, 80] rfl (by decide +kernel)
set_option maxRecDepth 20000 in
theorem gc_wsL_kill_r4 : GoodIn wsL_law wsL_kill_r4 := goodIn_r _ [81, 82, 83, 21, 84, 85, 86, 20, 87, 88, 89, 90, 91, 92, 93, 51, 98, 99, 100, 101, 52, 102, 106, 107] rfl (by decide +kernel)
set_option maxRecDepth 20000 in
theorem gc_wsL_kill_r5 : GoodIn wsL_law wsL_kill_r5 := goodIn_r _ [108, 109, 110, 111, 112, 113, 114, 115, 118, 119, 120, 121, 54, 122, 123, 124, 125, 126, 127, 128, 129] rfl (by decide +kernel)
set_option maxRecDepth 20000 in
theorem ggL_law_L_kill : GoodIn wsL_law wsL_kill := goodIn_ca (goodIn_ca ((goodIn_cc (goodIn_r _ [276] rfl (by decide +kernel)) (goodIn_app (goodIn_app (goodIn_app (goodIn_app (goodIn_app gc_wsL_kill_r1 (goodIn_app gc_wsL_kill_r2 (goodIn_app gc_wsL_kill_r3 (goodIn_app gc_wsL_kill_r4 (gc_wsL_kill_r5))))) (goodIn_sub inlX6 (by decide +kernel))) (goodIn_sub inlX3 (by decide +kernel))) (goodIn_sub inlX5 (by decide +kernel))) (goodIn_sub inlX2 (by decide +kernel))))) (goodIn_sub (fun _ h => List.mem_append_right _ h) (by decide +kernel))) (goodIn_sub (fun _ h => List.mem_append_left _ (List.mem_append_right _ h)) (by decide +kernel))
set_option maxRecDepth 20000 in
theorem gL_law_L_kill : GoodIn wsL_law (va_wsS RL 149 yL_kill wsL_kill) := goodIn_app (goodIn_of _ (by decide +kernel)) ggL_law_L_kill
set_option maxRecDepth 20000 in
theorem gc_wsL_revive_r1 : GoodIn wsL_law wsL_revive_r1 := goodIn_r _ [167, 142, 293, 294, 295, 2, 296, 147, 148, 13, 17, 244, 245, 246, 247, 172, 173, 197, 198, 199, 200, 285, 94, 95] rfl (by decide +kernel)
set_option maxRecDepth 20000 in
theorem gc_wsL_revive_r2 : GoodIn wsL_law wsL_revive_r2 := goodIn_r _ [174, 175, 176, 16, 177, 153, 154, 178, 179, 180, 181, 155, 156, 157, 158, 47, 159, 160, 161, 12, 162, 75, 77, 78] rfl (by decide +kernel)
set_option maxRecDepth 20000 in
theorem gc_wsL_revive_r3 : GoodIn wsL_law wsL_revive_r3 := goodIn_r _ [79, 37, 163, 103, 104, 105, 38, 39, 40, 41, 80, 81, 82, 83, 21, 84, 85, 86, 20, 87, 88, 89, 90, 91] rfl (by decide +kernel)
set_option maxRecDepth 20000 in
theorem gc_wsL_revive_r4 : GoodIn wsL_law wsL_revive_r4 := goodIn_r _ [92, 93, 51, 96, 97, 98, 99, 100, 101, 52, 102, 106, 107, 108, 109, 110, 111, 112, 113, 114, 115, 116, 117, 118] rfl (by decide +kernel)
set_option maxRecDepth 20000 in
theorem gc_wsL_revive_r5 : GoodIn wsL_law wsL_revive_r5 := goodIn_r _ [119, 120, 121, 54, 122, 123, 124, 125, 126, 127, 128, 129, 230, 231, 232, 233, 234, 235, 236] rfl (by decide +kernel)
set_option maxRecDepth 20000 in
theorem ggL_law_L_revive : GoodIn wsL_law wsL_revive := goodIn_ca (goodIn_ca ((goodIn_cc (goodIn_r _ [292] rfl (by decide +kernel)) (goodIn_app (goodIn_app (goodIn_app (goodIn_app (goodIn_app gc_wsL_revive_r1 (goodIn_app gc_wsL_revive_r2 (goodIn_app gc_wsL_revive_r3 (goodIn_app gc_wsL_revive_r4 (gc_wsL_revive_r5))))) (goodIn_sub inlX6 (by decide +kernel))) (goodIn_sub inlX3 (by decide +kernel))) (goodIn_sub inlX5 (by decide +kernel))) (goodIn_sub inlX2 (by decide +kernel))))) (goodIn_sub (fun _ h => List.mem_append_left _ (List.mem_append_right _ h)) (by decide +kernel))) (goodIn_sub (fun _ h => List.mem_append_right _ h) (by decide +kernel))
set_option maxRecDepth 20000 in
theorem gL_law_L_revive : GoodIn wsL_law (va_wsS RL 151 yL_revive wsL_revive) := goodIn_app (goodIn_of _ (by decide +kernel)) ggL_law_L_revive
set_option maxRecDepth 20000 in
theorem ggL_law_L_alive : GoodIn wsL_law wsL_alive := goodIn_ca (goodIn_r _ [462, 453, 454, 132, 455, 167, 456, 457, 458, 2, 459, 13, 244, 245, 246, 247, 172, 173, 197, 198, 199, 200, 285, 94, 95, 540, 541, 542, 543, 544, 545, 546, 547, 548, 549, 550, 551, 552, 553, 554] rfl (by decide +kernel)) (goodIn_sub (fun _ h => List.mem_append_right _ h) (by decide +kernel))
set_option maxRecDepth 20000 in
theorem gL_law_L_alive : GoodIn wsL_law (va_wsS RL 125 yL_alive wsL_alive) := goodIn_app (goodIn_of _ (by decide +kernel)) ggL_law_L_alive
set_option maxRecDepth 20000 in
theorem gc_wsL_send_r1 : GoodIn wsL_law wsL_send_r1 := goodIn_r _ [167, 142, 411, 412, 413, 2, 414, 147, 148, 13, 17, 415, 416, 417, 418, 244, 245, 246, 247, 172, 173, 197, 198, 199] rfl (by decide +kernel)
set_option maxRecDepth 20000 in
theorem gc_wsL_send_r2 : GoodIn wsL_law wsL_send_r2 := goodIn_r _ [200, 281, 282, 283, 284, 285, 94, 95, 174, 175, 176, 16, 177, 153, 154, 178, 179, 180, 181, 155, 156, 157, 158, 47] rfl (by decide +kernel)
set_option maxRecDepth 20000 in
theorem gc_wsL_send_r3 : GoodIn wsL_law wsL_send_r3 := goodIn_r _ [159, 160, 161, 12, 162, 75, 77, 78, 79, 37, 163, 103, 104, 105, 38, 39, 40, 41, 419, 420, 421, 422, 96, 97] rfl (by decide +kernel)
set_option maxRecDepth 20000 in
theorem ggL_law_L_send : GoodIn wsL_law wsL_send := goodIn_ca (goodIn_ca ((goodIn_cc (goodIn_r _ [410] rfl (by decide +kernel)) (goodIn_app (goodIn_app (goodIn_app (goodIn_app gc_wsL_send_r1 (goodIn_app gc_wsL_send_r2 (gc_wsL_send_r3))) (goodIn_sub inlX6 (by decide +kernel))) (goodIn_sub inlX3 (by decide +kernel))) (goodIn_sub inlX5 (by decide +kernel))))) (goodIn_sub (fun _ h => List.mem_append_left _ (List.mem_append_right _ h)) (by decide +kernel))) (goodIn_sub (fun _ h => List.mem_append_right _ h) (by decide +kernel))
set_option maxRecDepth 20000 in
theorem gL_law_L_send : GoodIn wsL_law (va_wsS RL 153 yL_send wsL_send) := goodIn_app (goodIn_of _ (by decide +kernel)) ggL_law_L_send
set_option maxRecDepth 20000 in
theorem ggL_law_L_state : GoodIn wsL_law wsL_state := goodIn_ca (goodIn_r _ [250, 167, 251, 252, 253, 2, 254, 13, 255, 256, 257, 258, 172, 173, 259, 116, 117, 540, 541, 542, 543, 544, 545, 546, 547, 548, 549, 550, 551, 552, 553, 554] rfl (by decide +kernel)) (goodIn_sub (fun _ h => List.mem_append_right _ h) (by decide +kernel))
set_option maxRecDepth 20000 in
theorem gL_law_L_state : GoodIn wsL_law (va_wsS RL 137 yL_state wsL_state) := goodIn_app (goodIn_of _ (by decide +kernel)) ggL_law_L_state
set_option maxRecDepth 20000 in
theorem ggL_law_L_position : GoodIn wsL_law wsL_position := goodIn_ca (goodIn_r _ [262, 167, 263, 264, 265, 2, 266, 13, 255, 256, 257, 258, 172, 173, 259, 116, 117, 540, 541, 542, 543, 544, 545, 546, 547, 548, 549, 550, 551, 552, 553, 554] rfl (by decide +kernel)) (goodIn_sub (fun _ h => List.mem_append_right _ h) (by decide +kernel))
set_option maxRecDepth 20000 in
theorem gL_law_L_position : GoodIn wsL_law (va_wsS RL 139 yL_position wsL_position) := goodIn_app (goodIn_of _ (by decide +kernel)) ggL_law_L_position
set_option maxRecDepth 20000 in
theorem ggL_law_L_moves : GoodIn wsL_law wsL_moves := goodIn_ca (goodIn_r _ [269, 167, 270, 271, 272, 2, 273, 13, 255, 256, 257, 258, 172, 173, 259, 116, 117, 540, 541, 542, 543, 544, 545, 546, 547, 548, 549, 550, 551, 552, 553, 554] rfl (by decide +kernel)) (goodIn_sub (fun _ h => List.mem_append_right _ h) (by decide +kernel))
set_option maxRecDepth 20000 in
theorem gL_law_L_moves : GoodIn wsL_law (va_wsS RL 141 yL_moves wsL_moves) := goodIn_app (goodIn_of _ (by decide +kernel)) ggL_law_L_moves
set_option maxRecDepth 20000 in
theorem ggL_law_L_count : GoodIn wsL_law wsL_count := goodIn_ca (goodIn_r _ [448, 167, 449, 450, 451, 2, 452, 172, 173, 13, 259, 116, 117, 540, 541, 542, 543, 544, 545, 546, 547, 548, 549, 550, 551, 552, 553, 554] rfl (by decide +kernel)) (goodIn_sub (fun _ h => List.mem_append_right _ h) (by decide +kernel))
set_option maxRecDepth 20000 in
theorem gL_law_L_count : GoodIn wsL_law (va_wsS RL 157 yL_count wsL_count) := goodIn_app (goodIn_of _ (by decide +kernel)) ggL_law_L_count
set_option maxRecDepth 20000 in
theorem gc_wsL_step_r1 : GoodIn wsL_law wsL_step_r1 := goodIn_r _ [167, 426, 427, 428, 2, 429, 172, 173, 17, 13, 33, 21, 174, 175, 176, 16, 177, 153, 154, 178, 179, 180, 181, 155] rfl (by decide +kernel)
set_option maxRecDepth 20000 in
theorem gc_wsL_step_r2 : GoodIn wsL_law wsL_step_r2 := goodIn_r _ [156, 157, 158, 47, 159, 160, 161, 12, 162, 75, 77, 78, 79, 37, 163, 103, 104, 105, 38, 39, 40, 41, 430, 431] rfl (by decide +kernel)
set_option maxRecDepth 20000 in
theorem gc_wsL_step_r3 : GoodIn wsL_law wsL_step_r3 := goodIn_r _ [432, 32, 433, 70, 434, 379, 124, 380, 116, 117, 435, 436, 437, 438, 439, 331, 332, 20, 333, 334, 335, 336, 337, 88] rfl (by decide +kernel)
set_option maxRecDepth 20000 in
theorem gc_wsL_step_r4 : GoodIn wsL_law wsL_step_r4 := goodIn_r _ [214, 215, 114, 115, 338, 202, 203, 204, 51, 440, 340, 341, 342, 441, 96, 97, 442, 443, 444, 445] rfl (by decide +kernel)
set_option maxRecDepth 20000 in
theorem ggL_law_L_step : GoodIn wsL_law wsL_step := goodIn_ca ((goodIn_cc (goodIn_r _ [425] rfl (by decide +kernel)) (goodIn_app (goodIn_app (goodIn_app (goodIn_app (goodIn_app (goodIn_app gc_wsL_step_r1 (goodIn_app gc_wsL_step_r2 (goodIn_app gc_wsL_step_r3 (gc_wsL_step_r4)))) (goodIn_sub inlX6 (by decide +kernel))) (goodIn_sub inlX5 (by decide +kernel))) (goodIn_sub inlX3 (by decide +kernel))) (goodIn_sub inlX4 (by decide +kernel))) (goodIn_sub inlX2 (by decide +kernel))))) (goodIn_sub (fun _ h => List.mem_append_right _ h) (by decide +kernel))
set_option maxRecDepth 20000 in
theorem gL_law_L_step : GoodIn wsL_law (va_wsS RL 155 yL_step wsL_step) := goodIn_app (goodIn_of _ (by decide +kernel)) ggL_law_L_step
set_option maxRecDepth 20000 in
theorem ggL_law_L_ones : GoodIn wsL_law wsL_ones := goodIn_r _ [465] rfl (by decide +kernel)
set_option maxRecDepth 20000 in
theorem gL_law_L_ones : GoodIn wsL_law (va_wsS RL 113 yL_ones wsL_ones) := goodIn_app (goodIn_of _ (by decide +kernel)) ggL_law_L_ones
set_option maxRecDepth 20000 in
theorem gc_wsL_isRoute_r1 : GoodIn wsL_law wsL_isRoute_r1 := goodIn_r _ [297, 298, 132, 299, 167, 300, 301, 302, 2, 303, 244, 245, 246, 247, 172, 173, 197, 198, 199, 200, 13, 220, 221, 222] rfl (by decide +kernel)
set_option maxRecDepth 20000 in
theorem gc_wsL_isRoute_r2 : GoodIn wsL_law wsL_isRoute_r2 := goodIn_r _ [223, 224, 225, 226, 469, 470, 471, 142, 472, 473, 474, 475, 415, 416, 417, 418, 281, 282, 283, 284, 147, 148, 285, 94] rfl (by decide +kernel)
set_option maxRecDepth 20000 in
theorem gc_wsL_isRoute_r3 : GoodIn wsL_law wsL_isRoute_r3 := goodIn_r _ [95, 476, 477, 478, 216, 217, 218, 219, 453, 454, 455, 456, 457, 458, 459, 479, 480, 481, 482, 483, 484, 485, 326, 327] rfl (by decide +kernel)
set_option maxRecDepth 20000 in
theorem gc_wsL_isRoute_r4 : GoodIn wsL_law wsL_isRoute_r4 := goodIn_r _ [328, 329, 21, 201, 202, 203, 20, 204, 51, 116, 117, 330, 331, 332, 333, 334, 335, 336, 337, 88, 214, 215, 114, 115] rfl (by decide +kernel)
set_option maxRecDepth 20000 in
theorem gc_wsL_isRoute_r5 : GoodIn wsL_law wsL_isRoute_r5 := goodIn_r _ [338, 339, 340, 341, 342, 486, 487, 488, 489, 490, 491, 492, 322, 323, 324, 325, 463, 464, 465, 315, 316, 317, 318, 319] rfl (by decide +kernel)
set_option maxRecDepth 20000 in
theorem gc_wsL_isRoute_r6 : GoodIn wsL_law wsL_isRoute_r6 := goodIn_r _ [320, 321, 343, 344, 345, 346, 347, 348] rfl (by decide +kernel)
set_option maxRecDepth 20000 in
theorem ggL_law_L_isRoute : GoodIn wsL_law wsL_isRoute := goodIn_ca (goodIn_ca ((goodIn_cc (goodIn_r _ [468] rfl (by decide +kernel)) (goodIn_app (goodIn_app (goodIn_app (goodIn_app gc_wsL_isRoute_r1 (goodIn_app gc_wsL_isRoute_r2 (goodIn_app gc_wsL_isRoute_r3 (goodIn_app gc_wsL_isRoute_r4 (goodIn_app gc_wsL_isRoute_r5 (gc_wsL_isRoute_r6)))))) (goodIn_sub inlX6 (by decide +kernel))) (goodIn_sub inlX3 (by decide +kernel))) (goodIn_sub inlX2 (by decide +kernel))))) (goodIn_sub (fun _ h => List.mem_append_right _ h) (by decide +kernel))) (goodIn_sub (fun _ h => List.mem_append_left _ (List.mem_append_right _ h)) (by decide +kernel))
set_option maxRecDepth 20000 in
theorem gL_law_L_isRoute : GoodIn wsL_law (va_wsS RL 174 yL_isRoute wsL_isRoute) := goodIn_app (goodIn_of _ (by decide +kernel)) ggL_law_L_isRoute
set_option maxRecDepth 20000 in
theorem gc_wsL_areLevels_r1 : GoodIn wsL_law wsL_areLevels_r1 := goodIn_r _ [189, 190, 191, 2, 192, 21, 237, 238, 132, 239, 167, 240, 241, 242, 243, 244, 245, 246, 247, 172, 173, 197, 198, 199] rfl (by decide +kernel)
set_option maxRecDepth 20000 in
theorem gc_wsL_areLevels_r2 : GoodIn wsL_law wsL_areLevels_r2 := goodIn_r _ [200, 13, 201, 202, 203, 20, 204, 51, 116, 117, 453, 454, 455, 456, 457, 458, 459, 285, 94, 95, 304, 305, 306, 307] rfl (by decide +kernel)
set_option maxRecDepth 20000 in
theorem gc_wsL_areLevels_r3 : GoodIn wsL_law wsL_areLevels_r3 := goodIn_r _ [308, 309, 310, 311, 312, 313, 314, 54, 193, 194, 195, 196] rfl (by decide +kernel)
set_option maxRecDepth 20000 in
theorem ggL_law_L_areLevels : GoodIn wsL_law wsL_areLevels := goodIn_ca ((goodIn_cc (goodIn_r _ [495] rfl (by decide +kernel)) (goodIn_app (goodIn_app (goodIn_app (goodIn_app gc_wsL_areLevels_r1 (goodIn_app gc_wsL_areLevels_r2 (gc_wsL_areLevels_r3))) (goodIn_sub inlX6 (by decide +kernel))) (goodIn_sub inlX2 (by decide +kernel))) (goodIn_sub inlX3 (by decide +kernel))))) (goodIn_sub (fun _ h => List.mem_append_right _ h) (by decide +kernel))
set_option maxRecDepth 20000 in
theorem gL_law_L_areLevels : GoodIn wsL_law (va_wsS RL 178 yL_areLevels wsL_areLevels) := goodIn_app (goodIn_of _ (by decide +kernel)) ggL_law_L_areLevels
set_option maxRecDepth 20000 in
theorem gc_wsL_areSubcubes_r1 : GoodIn wsL_law wsL_areSubcubes_r1 := goodIn_r _ [460, 461, 132, 462, 453, 454, 455, 167, 456, 457, 458, 2, 459, 13, 244, 245, 246, 247, 172, 173, 197, 198, 199, 200] rfl (by decide +kernel)
set_option maxRecDepth 20000 in
theorem gc_wsL_areSubcubes_r2 : GoodIn wsL_law wsL_areSubcubes_r2 := goodIn_r _ [285, 94, 95, 205, 206, 207, 208, 209, 210, 211, 212, 213, 214, 215, 216, 217, 218, 219, 220, 221, 222, 223, 224, 225] rfl (by decide +kernel)
set_option maxRecDepth 20000 in
theorem gc_wsL_areSubcubes_r3 : GoodIn wsL_law wsL_areSubcubes_r3 := goodIn_r _ [226, 227, 228, 229, 230, 231, 232, 233, 234, 235, 236, 356, 357, 358, 359, 360, 361, 362, 463, 464, 465] rfl (by decide +kernel)
set_option maxRecDepth 20000 in
theorem ggL_law_L_areSubcubes : GoodIn wsL_law wsL_areSubcubes := goodIn_ca ((goodIn_cc (goodIn_r _ [498] rfl (by decide +kernel)) (goodIn_app (goodIn_app (goodIn_app gc_wsL_areSubcubes_r1 (goodIn_app gc_wsL_areSubcubes_r2 (gc_wsL_areSubcubes_r3))) (goodIn_sub inlX6 (by decide +kernel))) (goodIn_sub inlX3 (by decide +kernel))))) (goodIn_sub (fun _ h => List.mem_append_right _ h) (by decide +kernel))
set_option maxRecDepth 20000 in
theorem gL_law_L_areSubcubes : GoodIn wsL_law (va_wsS RL 181 yL_areSubcubes wsL_areSubcubes) := goodIn_app (goodIn_of _ (by decide +kernel)) ggL_law_L_areSubcubes
set_option maxRecDepth 20000 in
theorem gc_wsL_isBroadcast_r1 : GoodIn wsL_law wsL_isBroadcast_r1 := goodIn_r _ [502, 503, 132, 504, 167, 142, 505, 506, 507, 2, 508, 25, 13, 21, 244, 245, 246, 247, 172, 173, 197, 198, 199, 200] rfl (by decide +kernel)
set_option maxRecDepth 20000 in
theorem gc_wsL_isBroadcast_r2 : GoodIn wsL_law wsL_isBroadcast_r2 := goodIn_r _ [281, 282, 283, 284, 147, 148, 285, 94, 95, 509, 510, 511, 24, 512, 58, 513, 60, 514, 379, 124, 380, 515, 340, 341] rfl (by decide +kernel)
set_option maxRecDepth 20000 in
theorem gc_wsL_isBroadcast_r3 : GoodIn wsL_law wsL_isBroadcast_r3 := goodIn_r _ [20, 342, 88, 516, 517, 518, 519, 59, 96, 97, 116, 117, 520, 521, 522, 523, 524, 335, 336, 337, 214, 215, 114, 115] rfl (by decide +kernel)
set_option maxRecDepth 20000 in
theorem gc_wsL_isBroadcast_r4 : GoodIn wsL_law wsL_isBroadcast_r4 := goodIn_r _ [338, 202, 203, 204, 51, 525, 526, 527, 528, 529, 463, 464, 465, 453, 454, 455, 456, 457, 458, 459, 530, 531, 532, 533] rfl (by decide +kernel)
set_option maxRecDepth 20000 in
theorem gc_wsL_isBroadcast_r5 : GoodIn wsL_law wsL_isBroadcast_r5 := goodIn_r _ [534, 535, 536, 349, 350, 351, 352, 353, 354, 355, 326, 327, 328, 329, 220, 221, 222, 223, 224, 225, 226, 201, 330, 331] rfl (by decide +kernel)
set_option maxRecDepth 20000 in
theorem gc_wsL_isBroadcast_r6 : GoodIn wsL_law wsL_isBroadcast_r6 := goodIn_r _ [332, 333, 334, 339, 460, 461, 462] rfl (by decide +kernel)
set_option maxRecDepth 20000 in
theorem ggL_law_L_isBroadcast : GoodIn wsL_law wsL_isBroadcast := goodIn_ca (goodIn_ca ((goodIn_cc (goodIn_r _ [501] rfl (by decide +kernel)) (goodIn_app (goodIn_app (goodIn_app (goodIn_app (goodIn_app gc_wsL_isBroadcast_r1 (goodIn_app gc_wsL_isBroadcast_r2 (goodIn_app gc_wsL_isBroadcast_r3 (goodIn_app gc_wsL_isBroadcast_r4 (goodIn_app gc_wsL_isBroadcast_r5 (gc_wsL_isBroadcast_r6)))))) (goodIn_sub inlX6 (by decide +kernel))) (goodIn_sub inlX3 (by decide +kernel))) (goodIn_sub inlX0 (by decide +kernel))) (goodIn_sub inlX2 (by decide +kernel))))) (goodIn_sub (fun _ h => List.mem_append_right _ h) (by decide +kernel))) (goodIn_sub (fun _ h => List.mem_append_left _ (List.mem_append_right _ h)) (by decide +kernel))
set_option maxRecDepth 20000 in
theorem gL_law_L_isBroadcast : GoodIn wsL_law (va_wsS RL 184 yL_isBroadcast wsL_isBroadcast) := goodIn_app (goodIn_of _ (by decide +kernel)) ggL_law_L_isBroadcast
set_option maxRecDepth 20000 in
theorem gc_wsL_arePaths_r1 : GoodIn wsL_law wsL_arePaths_r1 := goodIn_r _ [363, 364, 132, 365, 167, 142, 366, 367, 368, 2, 369, 172, 173, 29, 13, 244, 245, 246, 247, 197, 198, 199, 200, 281] rfl (by decide +kernel)
set_option maxRecDepth 20000 in
theorem gc_wsL_arePaths_r2 : GoodIn wsL_law wsL_arePaths_r2 := goodIn_r _ [282, 283, 284, 147, 148, 285, 94, 95, 370, 371, 372, 28, 373, 374, 375, 376, 377, 64, 378, 379, 124, 380, 381, 382] rfl (by decide +kernel)
set_option maxRecDepth 20000 in
theorem gc_wsL_arePaths_r3 : GoodIn wsL_law wsL_arePaths_r3 := goodIn_r _ [383, 384, 65, 385, 66, 386, 387, 388, 389, 390, 391, 392, 116, 117, 96, 97, 393, 394, 395, 396, 397, 398, 399, 114] rfl (by decide +kernel)
set_option maxRecDepth 20000 in
theorem gc_wsL_arePaths_r4 : GoodIn wsL_law wsL_arePaths_r4 := goodIn_r _ [115, 214, 215, 400, 401, 402, 403, 404, 405, 406, 407, 453, 454, 455, 456, 457, 458, 459, 469, 470, 471, 472, 473, 474] rfl (by decide +kernel)
set_option maxRecDepth 20000 in
theorem gc_wsL_arePaths_r5 : GoodIn wsL_law wsL_arePaths_r5 := goodIn_r _ [475, 415, 416, 417, 418, 476, 477, 478, 216, 217, 218, 219, 460, 461, 462] rfl (by decide +kernel)
set_option maxRecDepth 20000 in
theorem ggL_law_L_arePaths : GoodIn wsL_law wsL_arePaths := goodIn_ca (goodIn_ca ((goodIn_cc (goodIn_r _ [539] rfl (by decide +kernel)) (goodIn_app (goodIn_app (goodIn_app (goodIn_app gc_wsL_arePaths_r1 (goodIn_app gc_wsL_arePaths_r2 (goodIn_app gc_wsL_arePaths_r3 (goodIn_app gc_wsL_arePaths_r4 (gc_wsL_arePaths_r5))))) (goodIn_sub inlX6 (by decide +kernel))) (goodIn_sub inlX3 (by decide +kernel))) (goodIn_sub inlX1 (by decide +kernel))))) (goodIn_sub (fun _ h => List.mem_append_right _ h) (by decide +kernel))) (goodIn_sub (fun _ h => List.mem_append_left _ (List.mem_append_right _ h)) (by decide +kernel))
set_option maxRecDepth 20000 in
theorem gL_law_L_arePaths : GoodIn wsL_law (va_wsS RL 187 yL_arePaths wsL_arePaths) := goodIn_app (goodIn_of _ (by decide +kernel)) ggL_law_L_arePaths
