set_option maxRecDepth 20000 in
theorem ggL_setDimension_X6_setDimension : GoodIn wsL_setDimension wsX6_setDimension := goodIn_ca (goodIn_r _ [6, 7, 8, 9, 10, 11, 12, 13, 14, 15, 16, 17, 18, 19, 20, 21, 22, 23, 24, 25, 26, 27, 28, 29, 30, 31, 32, 33, 34, 35, 36, 37, 38, 39, 40, 41, 42, 43, 44, 45, 46, 47, 48, 49, 50, 51, 52, 5, 53, 54, 55, 56, 57, 58, 59, 60, 61, 62, 63, 64, 65, 66, 67, 68, 69, 70, 71, 72, 73, 74, 75, 76, 77, 78, 79, 80, 81, 82, 83, 84, 85, 86, 87, 88, 89, 90, 91, 92, 93, 94, 95, 96, 97, 98, 99, 100, 101, 102, 103, 104, 105, 106, 107, 108, 109, 110, 111, 112, 113, 114, 115, 116, 117, 118, 119, 120, 121, 122, 123, 124] (by decide +kernel) (by decide +kernel)) (goodIn_sub (fun _ h => List.mem_cons_of_mem _ (List.mem_append_right _ h)) (by decide +kernel))
set_option maxRecDepth 20000 in
theorem gL_setDimension_X6_setDimension : GoodIn wsL_setDimension (wsV RL 9 RX6 yX6_setDimension wsX6_setDimension) := goodIn_app (goodIn_of _ (by decide +kernel)) ggL_setDimension_X6_setDimension
theorem dL_setDimension_0 : decode cL_setDimension 0 = .ok (.aload_n 0, 1) := by decide +kernel
theorem dL_setDimension_1 : decode cL_setDimension 1 = .ok (.iload_n 1, 1) := by decide +kernel
theorem dL_setDimension_2 : decode cL_setDimension 2 = .ok (.invokevirtual 9, 3) := by decide +kernel
theorem dL_setDimension_5 : decode cL_setDimension 5 = .ok (.istore_n 2, 1) := by decide +kernel
theorem dL_setDimension_6 : decode cL_setDimension 6 = .ok (.goto 8, 3) := by decide +kernel
theorem dL_setDimension_9 : decode cL_setDimension 9 = .ok (.astore_n 3, 1) := by decide +kernel
theorem dL_setDimension_10 : decode cL_setDimension 10 = .ok (.sipush (-1000), 3) := by decide +kernel
theorem dL_setDimension_13 : decode cL_setDimension 13 = .ok (.ireturn, 1) := by decide +kernel
theorem dL_setDimension_14 : decode cL_setDimension 14 = .ok (.iload_n 2, 1) := by decide +kernel
theorem dL_setDimension_15 : decode cL_setDimension 15 = .ok (.ireturn, 1) := by decide +kernel
set_option maxRecDepth 20000 in
theorem ggL_kill_X6_kill : GoodIn wsL_kill wsX6_kill := goodIn_ca (goodIn_ca (goodIn_r _ [7, 8, 9, 10, 11, 12, 6, 13, 14, 15, 16, 17, 18, 19, 20, 21, 22, 23, 24, 25, 26, 27, 28, 29, 30, 31, 32, 33, 34, 35, 36, 37, 38, 39, 40, 41, 42, 43, 44, 45, 46, 47, 48, 49, 50, 51, 52, 53, 54, 55, 56, 57, 58, 59, 60, 61, 62, 63, 64, 65, 66, 67, 68, 69, 70, 71, 72, 73, 74, 75, 76, 77, 78, 79, 80, 81, 82, 83, 84, 85, 86, 87, 88, 89, 90, 91, 92, 93, 94, 95, 96, 97, 98, 99, 100, 101, 102, 103, 104, 105, 106, 107, 108, 109, 110, 111, 112, 113, 114, 115, 116, 117, 118, 119, 120, 121, 122, 123, 124, 125, 126, 127, 128, 129, 130, 131, 132, 133, 134, 135, 136, 137, 138, 139, 140] (by decide +kernel) (by decide +kernel)) (goodIn_sub (fun _ h => List.mem_cons_of_mem _ (List.mem_append_left _ (List.mem_append_right _ h))) (by decide +kernel))) (goodIn_sub (fun _ h => List.mem_cons_of_mem _ (List.mem_append_right _ h)) (by decide +kernel))
set_option maxRecDepth 20000 in
theorem gL_kill_X6_kill : GoodIn wsL_kill (wsV RL 17 RX6 yX6_kill wsX6_kill) := goodIn_app (goodIn_of _ (by decide +kernel)) ggL_kill_X6_kill
theorem dL_kill_0 : decode cL_kill 0 = .ok (.aload_n 0, 1) := by decide +kernel
theorem dL_kill_1 : decode cL_kill 1 = .ok (.iload_n 1, 1) := by decide +kernel
theorem dL_kill_2 : decode cL_kill 2 = .ok (.invokevirtual 17, 3) := by decide +kernel
theorem dL_kill_5 : decode cL_kill 5 = .ok (.istore_n 2, 1) := by decide +kernel
theorem dL_kill_6 : decode cL_kill 6 = .ok (.goto 13, 3) := by decide +kernel
theorem dL_kill_9 : decode cL_kill 9 = .ok (.astore_n 3, 1) := by decide +kernel
theorem dL_kill_10 : decode cL_kill 10 = .ok (.sipush (-1000), 3) := by decide +kernel
theorem dL_kill_13 : decode cL_kill 13 = .ok (.ireturn, 1) := by decide +kernel
theorem dL_kill_14 : decode cL_kill 14 = .ok (.astore_n 3, 1) := by decide +kernel
theorem dL_kill_15 : decode cL_kill 15 = .ok (.sipush (-2000), 3) := by decide +kernel
theorem dL_kill_18 : decode cL_kill 18 = .ok (.ireturn, 1) := by decide +kernel
theorem dL_kill_19 : decode cL_kill 19 = .ok (.iload_n 2, 1) := by decide +kernel
theorem dL_kill_20 : decode cL_kill 20 = .ok (.ireturn, 1) := by decide +kernel
set_option maxRecDepth 20000 in
theorem ggL_revive_X6_revive : GoodIn wsL_revive wsX6_revive := goodIn_ca (goodIn_ca (goodIn_r _ [7, 8, 9, 10, 11, 12, 13, 14, 6, 15, 16, 17, 18, 19, 20, 21, 22, 23, 24, 25, 26, 27, 28, 29, 30, 31, 32, 33, 34, 35, 36, 37, 38, 39, 40, 41, 42, 43, 44, 45, 46, 47, 48, 49, 50, 51, 52, 53, 54, 55, 56, 57, 58, 59, 60, 61, 62, 63, 64, 65, 66, 67, 68, 69, 70, 71, 72, 73, 74, 75, 76, 77, 78, 79, 80, 81, 82, 83, 84, 85, 86, 87, 88, 89, 90, 91, 92, 93, 94, 95, 96, 97, 98, 99, 100, 101, 102, 103, 104, 105, 106, 107, 108, 109, 110, 111, 112, 113, 114, 115, 116, 117, 118, 119, 120, 121, 122, 123, 124, 125, 126, 127, 128, 129, 130, 131, 132, 133, 134, 135, 136, 137, 138] (by decide +kernel) (by decide +kernel)) (goodIn_sub (fun _ h => List.mem_cons_of_mem _ (List.mem_append_left _ (List.mem_append_right _ h))) (by decide +kernel))) (goodIn_sub (fun _ h => List.mem_cons_of_mem _ (List.mem_append_right _ h)) (by decide +kernel))
set_option maxRecDepth 20000 in
theorem gL_revive_X6_revive : GoodIn wsL_revive (wsV RL 22 RX6 yX6_revive wsX6_revive) := goodIn_app (goodIn_of _ (by decide +kernel)) ggL_revive_X6_revive
theorem dL_revive_0 : decode cL_revive 0 = .ok (.aload_n 0, 1) := by decide +kernel
theorem dL_revive_1 : decode cL_revive 1 = .ok (.iload_n 1, 1) := by decide +kernel
theorem dL_revive_2 : decode cL_revive 2 = .ok (.invokevirtual 22, 3) := by decide +kernel
theorem dL_revive_5 : decode cL_revive 5 = .ok (.istore_n 2, 1) := by decide +kernel
theorem dL_revive_6 : decode cL_revive 6 = .ok (.goto 13, 3) := by decide +kernel
theorem dL_revive_9 : decode cL_revive 9 = .ok (.astore_n 3, 1) := by decide +kernel
theorem dL_revive_10 : decode cL_revive 10 = .ok (.sipush (-1000), 3) := by decide +kernel
theorem dL_revive_13 : decode cL_revive 13 = .ok (.ireturn, 1) := by decide +kernel
theorem dL_revive_14 : decode cL_revive 14 = .ok (.astore_n 3, 1) := by decide +kernel
theorem dL_revive_15 : decode cL_revive 15 = .ok (.sipush (-2000), 3) := by decide +kernel
theorem dL_revive_18 : decode cL_revive 18 = .ok (.ireturn, 1) := by decide +kernel
theorem dL_revive_19 : decode cL_revive 19 = .ok (.iload_n 2, 1) := by decide +kernel
theorem dL_revive_20 : decode cL_revive 20 = .ok (.ireturn, 1) := by decide +kernel
set_option maxRecDepth 20000 in
theorem ggL_isAlive_X6_isAlive : GoodIn wsL_isAlive wsX6_isAlive := goodIn_ca (goodIn_r _ [6, 7, 8, 9, 10, 5, 11, 12, 13, 14, 15, 16, 17, 18, 19, 20, 21, 22, 23, 24, 25, 26, 27, 28, 29, 30, 31, 32, 33, 34, 35] (by decide +kernel) (by decide +kernel)) (goodIn_sub (fun _ h => List.mem_cons_of_mem _ (List.mem_append_right _ h)) (by decide +kernel))
set_option maxRecDepth 20000 in
theorem gL_isAlive_X6_isAlive : GoodIn wsL_isAlive (wsV RL 25 RX6 yX6_isAlive wsX6_isAlive) := goodIn_app (goodIn_of _ (by decide +kernel)) ggL_isAlive_X6_isAlive
theorem dL_isAlive_0 : decode cL_isAlive 0 = .ok (.aload_n 0, 1) := by decide +kernel
theorem dL_isAlive_1 : decode cL_isAlive 1 = .ok (.iload_n 1, 1) := by decide +kernel
theorem dL_isAlive_2 : decode cL_isAlive 2 = .ok (.invokevirtual 25, 3) := by decide +kernel
theorem dL_isAlive_5 : decode cL_isAlive 5 = .ok (.ifCond .eq 7, 3) := by decide +kernel
theorem dL_isAlive_8 : decode cL_isAlive 8 = .ok (.iconst 1, 1) := by decide +kernel
theorem dL_isAlive_9 : decode cL_isAlive 9 = .ok (.goto 4, 3) := by decide +kernel
theorem dL_isAlive_12 : decode cL_isAlive 12 = .ok (.iconst 0, 1) := by decide +kernel
theorem dL_isAlive_13 : decode cL_isAlive 13 = .ok (.istore_n 2, 1) := by decide +kernel
theorem dL_isAlive_14 : decode cL_isAlive 14 = .ok (.goto 8, 3) := by decide +kernel
theorem dL_isAlive_17 : decode cL_isAlive 17 = .ok (.astore_n 3, 1) := by decide +kernel
theorem dL_isAlive_18 : decode cL_isAlive 18 = .ok (.sipush (-1000), 3) := by decide +kernel
theorem dL_isAlive_21 : decode cL_isAlive 21 = .ok (.ireturn, 1) := by decide +kernel
theorem dL_isAlive_22 : decode cL_isAlive 22 = .ok (.iload_n 2, 1) := by decide +kernel
theorem dL_isAlive_23 : decode cL_isAlive 23 = .ok (.ireturn, 1) := by decide +kernel
set_option maxRecDepth 20000 in
theorem ggL_distance_X6_distance : GoodIn wsL_distance wsX6_distance := goodIn_ca (goodIn_r _ [6, 7, 8, 9, 5, 10, 11, 12, 13, 14, 15, 16, 17, 18, 19, 20, 21, 22, 23, 24, 25, 26, 27, 28, 29, 30, 31, 32, 33, 34, 35, 36, 37, 38, 39] (by decide +kernel) (by decide +kernel)) (goodIn_sub (fun _ h => List.mem_cons_of_mem _ (List.mem_append_right _ h)) (by decide +kernel))
set_option maxRecDepth 20000 in
theorem gL_distance_X6_distance : GoodIn wsL_distance (wsV RL 29 RX6 yX6_distance wsX6_distance) := goodIn_app (goodIn_of _ (by decide +kernel)) ggL_distance_X6_distance
theorem dL_distance_0 : decode cL_distance 0 = .ok (.aload_n 0, 1) := by decide +kernel
theorem dL_distance_1 : decode cL_distance 1 = .ok (.iload_n 1, 1) := by decide +kernel
theorem dL_distance_2 : decode cL_distance 2 = .ok (.iload_n 2, 1) := by decide +kernel
theorem dL_distance_3 : decode cL_distance 3 = .ok (.invokevirtual 29, 3) := by decide +kernel
theorem dL_distance_6 : decode cL_distance 6 = .ok (.istore_n 3, 1) := by decide +kernel
theorem dL_distance_7 : decode cL_distance 7 = .ok (.goto 9, 3) := by decide +kernel
theorem dL_distance_10 : decode cL_distance 10 = .ok (.astore 4, 2) := by decide +kernel
theorem dL_distance_12 : decode cL_distance 12 = .ok (.sipush (-1000), 3) := by decide +kernel
theorem dL_distance_15 : decode cL_distance 15 = .ok (.ireturn, 1) := by decide +kernel
theorem dL_distance_16 : decode cL_distance 16 = .ok (.iload_n 3, 1) := by decide +kernel
theorem dL_distance_17 : decode cL_distance 17 = .ok (.ireturn, 1) := by decide +kernel
set_option maxRecDepth 20000 in
theorem ggL_shortest_X6_shortest : GoodIn wsL_shortest wsX6_shortest := goodIn_ca (goodIn_ca (goodIn_r _ [7, 8, 9, 10, 11, 6, 12, 13, 14, 15, 16, 17, 18, 19, 20, 21, 22, 23, 24, 25, 26, 27, 28, 29, 30, 31, 32, 33, 34, 35, 36, 37, 38, 39, 40, 41, 42, 43, 44, 45, 46, 47, 48, 49, 50, 51, 52, 53] (by decide +kernel) (by decide +kernel)) (goodIn_sub (fun _ h => List.mem_cons_of_mem _ (List.mem_append_left _ (List.mem_append_right _ h))) (by decide +kernel))) (goodIn_sub (fun _ h => List.mem_cons_of_mem _ (List.mem_append_right _ h)) (by decide +kernel))
set_option maxRecDepth 20000 in
theorem gL_shortest_X6_shortest : GoodIn wsL_shortest (wsV RL 33 RX6 yX6_shortest wsX6_shortest) := goodIn_app (goodIn_of _ (by decide +kernel)) ggL_shortest_X6_shortest
theorem dL_shortest_0 : decode cL_shortest 0 = .ok (.aload_n 0, 1) := by decide +kernel
theorem dL_shortest_1 : decode cL_shortest 1 = .ok (.iload_n 1, 1) := by decide +kernel
theorem dL_shortest_2 : decode cL_shortest 2 = .ok (.iload_n 2, 1) := by decide +kernel
theorem dL_shortest_3 : decode cL_shortest 3 = .ok (.invokevirtual 33, 3) := by decide +kernel
theorem dL_shortest_6 : decode cL_shortest 6 = .ok (.istore_n 3, 1) := by decide +kernel
theorem dL_shortest_7 : decode cL_shortest 7 = .ok (.goto 15, 3) := by decide +kernel
theorem dL_shortest_10 : decode cL_shortest 10 = .ok (.astore 4, 2) := by decide +kernel
theorem dL_shortest_12 : decode cL_shortest 12 = .ok (.sipush (-1000), 3) := by decide +kernel
theorem dL_shortest_15 : decode cL_shortest 15 = .ok (.ireturn, 1) := by decide +kernel
theorem dL_shortest_16 : decode cL_shortest 16 = .ok (.astore 4, 2) := by decide +kernel
theorem dL_shortest_18 : decode cL_shortest 18 = .ok (.sipush (-2000), 3) := by decide +kernel
theorem dL_shortest_21 : decode cL_shortest 21 = .ok (.ireturn, 1) := by decide +kernel
theorem dL_shortest_22 : decode cL_shortest 22 = .ok (.iload_n 3, 1) := by decide +kernel
theorem dL_shortest_23 : decode cL_shortest 23 = .ok (.ireturn, 1) := by decide +kernel
set_option maxRecDepth 20000 in
theorem ggL_level_X6_level : GoodIn wsL_level wsX6_level := goodIn_ca (goodIn_r _ [6, 7, 8, 9, 10, 5, 11, 12, 13, 14, 15, 16, 17, 18, 19, 20, 21, 22, 23, 24, 25, 26, 27, 28, 29, 30, 31, 32, 33, 34, 35, 36, 37, 38, 39, 40, 41, 42, 43, 44, 45, 46] (by decide +kernel) (by decide +kernel)) (goodIn_sub (fun _ h => List.mem_cons_of_mem _ (List.mem_append_right _ h)) (by decide +kernel))
set_option maxRecDepth 20000 in
theorem gL_level_X6_level : GoodIn wsL_level (wsV RL 36 RX6 yX6_level wsX6_level) := goodIn_app (goodIn_of _ (by decide +kernel)) ggL_level_X6_level
theorem dL_level_0 : decode cL_level 0 = .ok (.aload_n 0, 1) := by decide +kernel
theorem dL_level_1 : decode cL_level 1 = .ok (.iload_n 1, 1) := by decide +kernel
theorem dL_level_2 : decode cL_level 2 = .ok (.invokevirtual 36, 3) := by decide +kernel
theorem dL_level_5 : decode cL_level 5 = .ok (.istore_n 2, 1) := by decide +kernel
theorem dL_level_6 : decode cL_level 6 = .ok (.goto 8, 3) := by decide +kernel
theorem dL_level_9 : decode cL_level 9 = .ok (.astore_n 3, 1) := by decide +kernel
theorem dL_level_10 : decode cL_level 10 = .ok (.sipush (-1000), 3) := by decide +kernel
theorem dL_level_13 : decode cL_level 13 = .ok (.ireturn, 1) := by decide +kernel
theorem dL_level_14 : decode cL_level 14 = .ok (.iload_n 2, 1) := by decide +kernel
theorem dL_level_15 : decode cL_level 15 = .ok (.ireturn, 1) := by decide +kernel
set_option maxRecDepth 20000 in
theorem ggL_vectorBit_X6_vectorBit : GoodIn wsL_vectorBit wsX6_vectorBit := goodIn_ca (goodIn_r _ [6, 7, 8, 9, 10, 11, 12, 13, 5, 14, 15, 16, 17, 18, 19, 20, 21, 22, 23, 24, 25, 26, 27, 28, 29, 30, 31, 32, 33, 34, 35, 36, 37, 38, 39, 40, 41, 42, 43, 44, 45, 46] (by decide +kernel) (by decide +kernel)) (goodIn_sub (fun _ h => List.mem_cons_of_mem _ (List.mem_append_right _ h)) (by decide +kernel))
set_option maxRecDepth 20000 in
theorem gL_vectorBit_X6_vectorBit : GoodIn wsL_vectorBit (wsV RL 39 RX6 yX6_vectorBit wsX6_vectorBit) := goodIn_app (goodIn_of _ (by decide +kernel)) ggL_vectorBit_X6_vectorBit
theorem dL_vectorBit_0 : decode cL_vectorBit 0 = .ok (.aload_n 0, 1) := by decide +kernel
theorem dL_vectorBit_1 : decode cL_vectorBit 1 = .ok (.iload_n 1, 1) := by decide +kernel
theorem dL_vectorBit_2 : decode cL_vectorBit 2 = .ok (.iload_n 2, 1) := by decide +kernel
theorem dL_vectorBit_3 : decode cL_vectorBit 3 = .ok (.invokevirtual 39, 3) := by decide +kernel
theorem dL_vectorBit_6 : decode cL_vectorBit 6 = .ok (.istore_n 3, 1) := by decide +kernel
theorem dL_vectorBit_7 : decode cL_vectorBit 7 = .ok (.goto 9, 3) := by decide +kernel
theorem dL_vectorBit_10 : decode cL_vectorBit 10 = .ok (.astore 4, 2) := by decide +kernel
theorem dL_vectorBit_12 : decode cL_vectorBit 12 = .ok (.sipush (-1000), 3) := by decide +kernel
theorem dL_vectorBit_15 : decode cL_vectorBit 15 = .ok (.ireturn, 1) := by decide +kernel
theorem dL_vectorBit_16 : decode cL_vectorBit 16 = .ok (.iload_n 3, 1) := by decide +kernel
theorem dL_vectorBit_17 : decode cL_vectorBit 17 = .ok (.ireturn, 1) := by decide +kernel
set_option maxRecDepth 20000 in
theorem ggL_decide_X6_decide : GoodIn wsL_decide wsX6_decide := goodIn_ca (goodIn_ca (goodIn_r _ [7, 8, 9, 10, 6, 11, 12, 13, 14, 15, 16, 17, 18, 19, 20, 21, 22, 23, 24, 25, 26, 27, 28, 29, 30, 31, 32, 33, 34, 35, 36, 37, 38, 39, 40, 41, 42, 43, 44, 45, 46, 47, 48, 49, 50, 51, 52, 53, 54, 55, 56, 57, 58, 59, 60, 61, 62, 63, 64, 65, 66, 67, 68, 69, 70, 71, 72, 73, 74, 75, 76, 77, 78, 79, 80, 81, 82, 83, 84, 85, 86, 87, 88, 89] (by decide +kernel) (by decide +kernel)) (goodIn_sub (fun _ h => List.mem_cons_of_mem _ (List.mem_append_left _ (List.mem_append_right _ h))) (by decide +kernel))) (goodIn_sub (fun _ h => List.mem_cons_of_mem _ (List.mem_append_right _ h)) (by decide +kernel))
set_option maxRecDepth 20000 in
theorem gL_decide_X6_decide : GoodIn wsL_decide (wsV RL 42 RX6 yX6_decide wsX6_decide) := goodIn_app (goodIn_of _ (by decide +kernel)) ggL_decide_X6_decide
theorem dL_decide_0 : decode cL_decide 0 = .ok (.aload_n 0, 1) := by decide +kernel
theorem dL_decide_1 : decode cL_decide 1 = .ok (.iload_n 1, 1) := by decide +kernel
theorem dL_decide_2 : decode cL_decide 2 = .ok (.iload_n 2, 1) := by decide +kernel
theorem dL_decide_3 : decode cL_decide 3 = .ok (.invokevirtual 42, 3) := by decide +kernel
theorem dL_decide_6 : decode cL_decide 6 = .ok (.istore_n 3, 1) := by decide +kernel
theorem dL_decide_7 : decode cL_decide 7 = .ok (.goto 15, 3) := by decide +kernel
theorem dL_decide_10 : decode cL_decide 10 = .ok (.astore 4, 2) := by decide +kernel
theorem dL_decide_12 : decode cL_decide 12 = .ok (.sipush (-1000), 3) := by decide +kernel
theorem dL_decide_15 : decode cL_decide 15 = .ok (.ireturn, 1) := by decide +kernel
theorem dL_decide_16 : decode cL_decide 16 = .ok (.astore 4, 2) := by decide +kernel
theorem dL_decide_18 : decode cL_decide 18 = .ok (.sipush (-2000), 3) := by decide +kernel
theorem dL_decide_21 : decode cL_decide 21 = .ok (.ireturn, 1) := by decide +kernel
theorem dL_decide_22 : decode cL_decide 22 = .ok (.iload_n 3, 1) := by decide +kernel
theorem dL_decide_23 : decode cL_decide 23 = .ok (.ireturn, 1) := by decide +kernel
set_option maxRecDepth 20000 in
theorem ggL_routeLength_X6_routeLength : GoodIn wsL_routeLength wsX6_routeLength := goodIn_ca (goodIn_ca (goodIn_r _ [7, 8, 9, 10, 6, 11, 12, 13, 14, 15, 16, 17, 18, 19, 20, 21, 22, 23, 24, 25, 26, 27, 28, 29, 30, 31, 32, 33, 34, 35, 36, 37, 38, 39, 40, 41, 42, 43, 44, 45, 46, 47, 48, 49, 50, 51, 52, 53, 54, 55, 56, 57, 58, 59, 60, 61, 62, 63, 64, 65, 66, 67, 68, 69, 70, 71, 72, 73, 74, 75, 76, 77, 78, 79, 80, 81, 82, 83, 84, 85, 86, 87, 88, 89, 90, 91, 92, 93] (by decide +kernel) (by decide +kernel)) (goodIn_sub (fun _ h => List.mem_cons_of_mem _ (List.mem_append_left _ (List.mem_append_right _ h))) (by decide +kernel))) (goodIn_sub (fun _ h => List.mem_cons_of_mem _ (List.mem_append_right _ h)) (by decide +kernel))
set_option maxRecDepth 20000 in
theorem gL_routeLength_X6_routeLength : GoodIn wsL_routeLength (wsV RL 45 RX6 yX6_routeLength wsX6_routeLength) := goodIn_app (goodIn_of _ (by decide +kernel)) ggL_routeLength_X6_routeLength
theorem dL_routeLength_0 : decode cL_routeLength 0 = .ok (.aload_n 0, 1) := by decide +kernel
theorem dL_routeLength_1 : decode cL_routeLength 1 = .ok (.iload_n 1, 1) := by decide +kernel
theorem dL_routeLength_2 : decode cL_routeLength 2 = .ok (.iload_n 2, 1) := by decide +kernel
theorem dL_routeLength_3 : decode cL_routeLength 3 = .ok (.invokevirtual 45, 3) := by decide +kernel
theorem dL_routeLength_6 : decode cL_routeLength 6 = .ok (.istore_n 3, 1) := by decide +kernel
theorem dL_routeLength_7 : decode cL_routeLength 7 = .ok (.goto 15, 3) := by decide +kernel
theorem dL_routeLength_10 : decode cL_routeLength 10 = .ok (.astore 4, 2) := by decide +kernel
theorem dL_routeLength_12 : decode cL_routeLength 12 = .ok (.sipush (-1000), 3) := by decide +kernel
theorem dL_routeLength_15 : decode cL_routeLength 15 = .ok (.ireturn, 1) := by decide +kernel
theorem dL_routeLength_16 : decode cL_routeLength 16 = .ok (.astore 4, 2) := by decide +kernel
theorem dL_routeLength_18 : decode cL_routeLength 18 = .ok (.sipush (-2000), 3) := by decide +kernel
theorem dL_routeLength_21 : decode cL_routeLength 21 = .ok (.ireturn, 1) := by decide +kernel
theorem dL_routeLength_22 : decode cL_routeLength 22 = .ok (.iload_n 3, 1) := by decide +kernel
theorem dL_routeLength_23 : decode cL_routeLength 23 = .ok (.ireturn, 1) := by decide +kernel
set_option maxRecDepth 20000 in
theorem ggL_routeNode_X6_routeNode : GoodIn wsL_routeNode wsX6_routeNode := goodIn_ca (goodIn_ca (goodIn_r _ [7, 8, 9, 10, 11, 12, 6, 13, 14, 15, 16, 17, 18, 19, 20, 21, 22, 23, 24, 25, 26, 27, 28, 29, 30, 31, 32, 33, 34, 35, 36, 37, 38, 39, 40, 41, 42, 43, 44, 45, 46, 47, 48, 49, 50, 51, 52, 53, 54, 55, 56, 57, 58, 59, 60, 61, 62, 63, 64, 65, 66, 67, 68, 69, 70, 71, 72, 73, 74, 75, 76, 77, 78, 79, 80, 81, 82, 83, 84, 85, 86, 87, 88, 89, 90, 91, 92, 93, 94, 95] (by decide +kernel) (by decide +kernel)) (goodIn_sub (fun _ h => List.mem_cons_of_mem _ (List.mem_append_left _ (List.mem_append_right _ h))) (by decide +kernel))) (goodIn_sub (fun _ h => List.mem_cons_of_mem _ (List.mem_append_right _ h)) (by decide +kernel))
set_option maxRecDepth 20000 in
theorem gL_routeNode_X6_routeNode : GoodIn wsL_routeNode (wsV RL 48 RX6 yX6_routeNode wsX6_routeNode) := goodIn_app (goodIn_of _ (by decide +kernel)) ggL_routeNode_X6_routeNode
theorem dL_routeNode_0 : decode cL_routeNode 0 = .ok (.aload_n 0, 1) := by decide +kernel
theorem dL_routeNode_1 : decode cL_routeNode 1 = .ok (.iload_n 1, 1) := by decide +kernel
theorem dL_routeNode_2 : decode cL_routeNode 2 = .ok (.iload_n 2, 1) := by decide +kernel
theorem dL_routeNode_3 : decode cL_routeNode 3 = .ok (.iload_n 3, 1) := by decide +kernel
theorem dL_routeNode_4 : decode cL_routeNode 4 = .ok (.invokevirtual 48, 3) := by decide +kernel
theorem dL_routeNode_7 : decode cL_routeNode 7 = .ok (.istore 4, 2) := by decide +kernel
theorem dL_routeNode_9 : decode cL_routeNode 9 = .ok (.goto 15, 3) := by decide +kernel
theorem dL_routeNode_12 : decode cL_routeNode 12 = .ok (.astore 5, 2) := by decide +kernel
theorem dL_routeNode_14 : decode cL_routeNode 14 = .ok (.sipush (-1000), 3) := by decide +kernel
theorem dL_routeNode_17 : decode cL_routeNode 17 = .ok (.ireturn, 1) := by decide +kernel
theorem dL_routeNode_18 : decode cL_routeNode 18 = .ok (.astore 5, 2) := by decide +kernel
theorem dL_routeNode_20 : decode cL_routeNode 20 = .ok (.sipush (-2000), 3) := by decide +kernel
theorem dL_routeNode_23 : decode cL_routeNode 23 = .ok (.ireturn, 1) := by decide +kernel
theorem dL_routeNode_24 : decode cL_routeNode 24 = .ok (.iload 4, 2) := by decide +kernel
theorem dL_routeNode_26 : decode cL_routeNode 26 = .ok (.ireturn, 1) := by decide +kernel
set_option maxRecDepth 20000 in
theorem ggL_reach_X6_reach : GoodIn wsL_reach wsX6_reach := goodIn_ca (goodIn_ca (goodIn_r _ [7, 8, 9, 10, 11, 12, 13, 6, 14, 15, 16, 17, 18, 19, 20, 21, 22, 23, 24, 25, 26, 27, 28, 29, 30, 31, 32, 33, 34, 35, 36, 37, 38, 39, 40, 41, 42, 43, 44, 45, 46, 47, 48, 49, 50, 51, 52, 53, 54, 55, 56, 57, 58, 59, 60, 61, 62, 63, 64, 65, 66, 67, 68, 69, 70, 71, 72, 73, 74, 75, 76, 77, 78, 79, 80, 81, 82, 83, 84, 85] (by decide +kernel) (by decide +kernel)) (goodIn_sub (fun _ h => List.mem_cons_of_mem _ (List.mem_append_left _ (List.mem_append_right _ h))) (by decide +kernel))) (goodIn_sub (fun _ h => List.mem_cons_of_mem _ (List.mem_append_right _ h)) (by decide +kernel))
set_option maxRecDepth 20000 in
theorem gL_reach_X6_reach : GoodIn wsL_reach (wsV RL 52 RX6 yX6_reach wsX6_reach) := goodIn_app (goodIn_of _ (by decide +kernel)) ggL_reach_X6_reach
theorem dL_reach_0 : decode cL_reach 0 = .ok (.aload_n 0, 1) := by decide +kernel
theorem dL_reach_1 : decode cL_reach 1 = .ok (.iload_n 1, 1) := by decide +kernel
theorem dL_reach_2 : decode cL_reach 2 = .ok (.iload_n 2, 1) := by decide +kernel
theorem dL_reach_3 : decode cL_reach 3 = .ok (.invokevirtual 52, 3) := by decide +kernel
theorem dL_reach_6 : decode cL_reach 6 = .ok (.istore_n 3, 1) := by decide +kernel
theorem dL_reach_7 : decode cL_reach 7 = .ok (.goto 15, 3) := by decide +kernel
theorem dL_reach_10 : decode cL_reach 10 = .ok (.astore 4, 2) := by decide +kernel
theorem dL_reach_12 : decode cL_reach 12 = .ok (.sipush (-1000), 3) := by decide +kernel
theorem dL_reach_15 : decode cL_reach 15 = .ok (.ireturn, 1) := by decide +kernel
theorem dL_reach_16 : decode cL_reach 16 = .ok (.astore 4, 2) := by decide +kernel
theorem dL_reach_18 : decode cL_reach 18 = .ok (.sipush (-2000), 3) := by decide +kernel
theorem dL_reach_21 : decode cL_reach 21 = .ok (.ireturn, 1) := by decide +kernel
theorem dL_reach_22 : decode cL_reach 22 = .ok (.iload_n 3, 1) := by decide +kernel
theorem dL_reach_23 : decode cL_reach 23 = .ok (.ireturn, 1) := by decide +kernel
set_option maxRecDepth 20000 in
theorem ggL_broadcastTime_X6_broadcastTime : GoodIn wsL_broadcastTime wsX6_broadcastTime := goodIn_ca (goodIn_ca (goodIn_r _ [7, 8, 9, 10, 11, 12, 13, 6, 14, 15, 16, 17, 18, 19, 20, 21, 22, 23, 24, 25, 26, 27, 28, 29, 30, 31, 32, 33, 34, 35, 36, 37, 38, 39, 40, 41, 42, 43, 44, 45, 46, 47, 48, 49, 50, 51, 52, 53, 54, 55, 56, 57, 58, 59, 60, 61, 62, 63, 64, 65, 66, 67, 68, 69, 70, 71, 72, 73, 74, 75, 76, 77, 78, 79, 80, 81, 82, 83, 84, 85, 86, 87, 88, 89, 90, 91, 92, 93, 94, 95, 96, 97, 98, 99, 100, 101, 102] (by decide +kernel) (by decide +kernel)) (goodIn_sub (fun _ h => List.mem_cons_of_mem _ (List.mem_append_left _ (List.mem_append_right _ h))) (by decide +kernel))) (goodIn_sub (fun _ h => List.mem_cons_of_mem _ (List.mem_append_right _ h)) (by decide +kernel))
set_option maxRecDepth 20000 in
theorem gL_broadcastTime_X6_broadcastTime : GoodIn wsL_broadcastTime (wsV RL 55 RX6 yX6_broadcastTime wsX6_broadcastTime) := goodIn_app (goodIn_of _ (by decide +kernel)) ggL_broadcastTime_X6_broadcastTime
theorem dL_broadcastTime_0 : decode cL_broadcastTime 0 = .ok (.aload_n 0, 1) := by decide +kernel
theorem dL_broadcastTime_1 : decode cL_broadcastTime 1 = .ok (.iload_n 1, 1) := by decide +kernel
theorem dL_broadcastTime_2 : decode cL_broadcastTime 2 = .ok (.iload_n 2, 1) := by decide +kernel
theorem dL_broadcastTime_3 : decode cL_broadcastTime 3 = .ok (.invokevirtual 55, 3) := by decide +kernel
theorem dL_broadcastTime_6 : decode cL_broadcastTime 6 = .ok (.istore_n 3, 1) := by decide +kernel
theorem dL_broadcastTime_7 : decode cL_broadcastTime 7 = .ok (.goto 15, 3) := by decide +kernel
theorem dL_broadcastTime_10 : decode cL_broadcastTime 10 = .ok (.astore 4, 2) := by decide +kernel
theorem dL_broadcastTime_12 : decode cL_broadcastTime 12 = .ok (.sipush (-1000), 3) := by decide +kernel
theorem dL_broadcastTime_15 : decode cL_broadcastTime 15 = .ok (.ireturn, 1) := by decide +kernel
theorem dL_broadcastTime_16 : decode cL_broadcastTime 16 = .ok (.astore 4, 2) := by decide +kernel
theorem dL_broadcastTime_18 : decode cL_broadcastTime 18 = .ok (.sipush (-2000), 3) := by decide +kernel
theorem dL_broadcastTime_21 : decode cL_broadcastTime 21 = .ok (.ireturn, 1) := by decide +kernel
theorem dL_broadcastTime_22 : decode cL_broadcastTime 22 = .ok (.iload_n 3, 1) := by decide +kernel
theorem dL_broadcastTime_23 : decode cL_broadcastTime 23 = .ok (.ireturn, 1) := by decide +kernel
set_option maxRecDepth 20000 in
theorem ggL_broadcastSize_X6_broadcastSize : GoodIn wsL_broadcastSize wsX6_broadcastSize := goodIn_ca (goodIn_ca (goodIn_r _ [7, 8, 9, 10, 11, 12, 13, 6, 14, 15, 16, 17, 18, 19, 20, 21, 22, 23, 24, 25, 26, 27, 28, 29, 30, 31, 32, 33, 34, 35, 36, 37, 38, 39, 40, 41, 42, 43, 44, 45, 46, 47, 48, 49, 50, 51, 52, 53, 54, 55, 56, 57, 58, 59, 60, 61, 62, 63, 64, 65, 66, 67, 68, 69, 70, 71, 72, 73, 74, 75, 76, 77, 78, 79, 80, 81, 82, 83, 84, 85, 86, 87, 88, 89, 90, 91, 92, 93, 94, 95, 96, 97, 98, 99, 100, 101] (by decide +kernel) (by decide +kernel)) (goodIn_sub (fun _ h => List.mem_cons_of_mem _ (List.mem_append_left _ (List.mem_append_right _ h))) (by decide +kernel))) (goodIn_sub (fun _ h => List.mem_cons_of_mem _ (List.mem_append_right _ h)) (by decide +kernel))
set_option maxRecDepth 20000 in
theorem gL_broadcastSize_X6_broadcastSize : GoodIn wsL_broadcastSize (wsV RL 58 RX6 yX6_broadcastSize wsX6_broadcastSize) := goodIn_app (goodIn_of _ (by decide +kernel)) ggL_broadcastSize_X6_broadcastSize
theorem dL_broadcastSize_0 : decode cL_broadcastSize 0 = .ok (.aload_n 0, 1) := by decide +kernel
theorem dL_broadcastSize_1 : decode cL_broadcastSize 1 = .ok (.iload_n 1, 1) := by decide +kernel
theorem dL_broadcastSize_2 : decode cL_broadcastSize 2 = .ok (.invokevirtual 58, 3) := by decide +kernel
theorem dL_broadcastSize_5 : decode cL_broadcastSize 5 = .ok (.istore_n 2, 1) := by decide +kernel
theorem dL_broadcastSize_6 : decode cL_broadcastSize 6 = .ok (.goto 13, 3) := by decide +kernel
theorem dL_broadcastSize_9 : decode cL_broadcastSize 9 = .ok (.astore_n 3, 1) := by decide +kernel
theorem dL_broadcastSize_10 : decode cL_broadcastSize 10 = .ok (.sipush (-1000), 3) := by decide +kernel
theorem dL_broadcastSize_13 : decode cL_broadcastSize 13 = .ok (.ireturn, 1) := by decide +kernel
theorem dL_broadcastSize_14 : decode cL_broadcastSize 14 = .ok (.astore_n 3, 1) := by decide +kernel
theorem dL_broadcastSize_15 : decode cL_broadcastSize 15 = .ok (.sipush (-2000), 3) := by decide +kernel
theorem dL_broadcastSize_18 : decode cL_broadcastSize 18 = .ok (.ireturn, 1) := by decide +kernel
theorem dL_broadcastSize_19 : decode cL_broadcastSize 19 = .ok (.iload_n 2, 1) := by decide +kernel
theorem dL_broadcastSize_20 : decode cL_broadcastSize 20 = .ok (.ireturn, 1) := by decide +kernel
set_option maxRecDepth 20000 in
theorem ggL_freeSubcubes_X6_freeSubcubes : GoodIn wsL_freeSubcubes wsX6_freeSubcubes := goodIn_ca (goodIn_r _ [6, 7, 8, 9, 10, 11, 12, 5, 13, 14, 15, 16, 17, 18, 19, 20, 21, 22, 23, 24, 25, 26, 27, 28, 29, 30, 31, 32, 33, 34, 35, 36, 37, 38, 39, 40, 41, 42, 43, 44, 45, 46, 47, 48, 49, 50, 51, 52, 53] (by decide +kernel) (by decide +kernel)) (goodIn_sub (fun _ h => List.mem_cons_of_mem _ (List.mem_append_right _ h)) (by decide +kernel))
set_option maxRecDepth 20000 in
theorem gL_freeSubcubes_X6_freeSubcubes : GoodIn wsL_freeSubcubes (wsV RL 61 RX6 yX6_freeSubcubes wsX6_freeSubcubes) := goodIn_app (goodIn_of _ (by decide +kernel)) ggL_freeSubcubes_X6_freeSubcubes
theorem dL_freeSubcubes_0 : decode cL_freeSubcubes 0 = .ok (.aload_n 0, 1) := by decide +kernel
theorem dL_freeSubcubes_1 : decode cL_freeSubcubes 1 = .ok (.iload_n 1, 1) := by decide +kernel
theorem dL_freeSubcubes_2 : decode cL_freeSubcubes 2 = .ok (.invokevirtual 61, 3) := by decide +kernel
theorem dL_freeSubcubes_5 : decode cL_freeSubcubes 5 = .ok (.istore_n 2, 1) := by decide +kernel
theorem dL_freeSubcubes_6 : decode cL_freeSubcubes 6 = .ok (.goto 8, 3) := by decide +kernel
theorem dL_freeSubcubes_9 : decode cL_freeSubcubes 9 = .ok (.astore_n 3, 1) := by decide +kernel
theorem dL_freeSubcubes_10 : decode cL_freeSubcubes 10 = .ok (.sipush (-1000), 3) := by decide +kernel
theorem dL_freeSubcubes_13 : decode cL_freeSubcubes 13 = .ok (.ireturn, 1) := by decide +kernel
theorem dL_freeSubcubes_14 : decode cL_freeSubcubes 14 = .ok (.iload_n 2, 1) := by decide +kernel
theorem dL_freeSubcubes_15 : decode cL_freeSubcubes 15 = .ok (.ireturn, 1) := by decide +kernel
set_option maxRecDepth 20000 in
theorem ggL_disjointPaths_X6_disjointPaths : GoodIn wsL_disjointPaths wsX6_disjointPaths := goodIn_ca (goodIn_ca (goodIn_r _ [7, 8, 9, 10, 11, 12, 13, 14, 6, 15, 16, 17, 18, 19, 20, 21, 22, 23, 24, 25, 26, 27, 28, 29, 30, 31, 32, 33, 34, 35, 36, 37, 38, 39, 40, 41, 42, 43, 44, 45, 46, 47, 48, 49, 50, 51, 52, 53, 54, 55, 56, 57, 58, 59, 60, 61, 62, 63, 64, 65, 66, 67, 68, 69, 70, 71, 72, 73, 74, 75, 76, 77, 78, 79, 80, 81, 82, 83, 84, 85, 86, 87, 88, 89, 90, 91, 92, 93, 94, 95, 96, 97, 98, 99, 100, 101, 102] (by decide +kernel) (by decide +kernel)) (goodIn_sub (fun _ h => List.mem_cons_of_mem _ (List.mem_append_left _ (List.mem_append_right _ h))) (by decide +kernel))) (goodIn_sub (fun _ h => List.mem_cons_of_mem _ (List.mem_append_right _ h)) (by decide +kernel))
set_option maxRecDepth 20000 in
theorem gL_disjointPaths_X6_disjointPaths : GoodIn wsL_disjointPaths (wsV RL 64 RX6 yX6_disjointPaths wsX6_disjointPaths) := goodIn_app (goodIn_of _ (by decide +kernel)) ggL_disjointPaths_X6_disjointPaths
theorem dL_disjointPaths_0 : decode cL_disjointPaths 0 = .ok (.aload_n 0, 1) := by decide +kernel
theorem dL_disjointPaths_1 : decode cL_disjointPaths 1 = .ok (.iload_n 1, 1) := by decide +kernel
theorem dL_disjointPaths_2 : decode cL_disjointPaths 2 = .ok (.iload_n 2, 1) := by decide +kernel
theorem dL_disjointPaths_3 : decode cL_disjointPaths 3 = .ok (.invokevirtual 64, 3) := by decide +kernel
theorem dL_disjointPaths_6 : decode cL_disjointPaths 6 = .ok (.istore_n 3, 1) := by decide +kernel
theorem dL_disjointPaths_7 : decode cL_disjointPaths 7 = .ok (.goto 15, 3) := by decide +kernel
theorem dL_disjointPaths_10 : decode cL_disjointPaths 10 = .ok (.astore 4, 2) := by decide +kernel
theorem dL_disjointPaths_12 : decode cL_disjointPaths 12 = .ok (.sipush (-1000), 3) := by decide +kernel
theorem dL_disjointPaths_15 : decode cL_disjointPaths 15 = .ok (.ireturn, 1) := by decide +kernel
theorem dL_disjointPaths_16 : decode cL_disjointPaths 16 = .ok (.astore 4, 2) := by decide +kernel
theorem dL_disjointPaths_18 : decode cL_disjointPaths 18 = .ok (.sipush (-2000), 3) := by decide +kernel
theorem dL_disjointPaths_21 : decode cL_disjointPaths 21 = .ok (.ireturn, 1) := by decide +kernel
theorem dL_disjointPaths_22 : decode cL_disjointPaths 22 = .ok (.iload_n 3, 1) := by decide +kernel
theorem dL_disjointPaths_23 : decode cL_disjointPaths 23 = .ok (.ireturn, 1) := by decide +kernel
set_option maxRecDepth 20000 in
theorem ggL_send_X6_send : GoodIn wsL_send wsX6_send := goodIn_ca (goodIn_ca (goodIn_r _ [7, 8, 9, 10, 11, 12, 13, 14, 6, 15, 16, 17, 18, 19, 20, 21, 22, 23, 24, 25, 26, 27, 28, 29, 30, 31, 32, 33, 34, 35, 36, 37, 38, 39, 40, 41, 42, 43, 44, 45, 46, 47, 48, 49, 50, 51, 52, 53, 54, 55, 56, 57, 58, 59, 60, 61, 62, 63, 64, 65, 66, 67, 68, 69, 70, 71, 72, 73, 74, 75, 76, 77, 78, 79, 80, 81, 82, 83, 84, 85, 86, 87, 88, 89, 90] (by decide +kernel) (by decide +kernel)) (goodIn_sub (fun _ h => List.mem_cons_of_mem _ (List.mem_append_left _ (List.mem_append_right _ h))) (by decide +kernel))) (goodIn_sub (fun _ h => List.mem_cons_of_mem _ (List.mem_append_right _ h)) (by decide +kernel))
set_option maxRecDepth 20000 in
theorem gL_send_X6_send : GoodIn wsL_send (wsV RL 67 RX6 yX6_send wsX6_send) := goodIn_app (goodIn_of _ (by decide +kernel)) ggL_send_X6_send
theorem dL_send_0 : decode cL_send 0 = .ok (.aload_n 0, 1) := by decide +kernel
theorem dL_send_1 : decode cL_send 1 = .ok (.iload_n 1, 1) := by decide +kernel
theorem dL_send_2 : decode cL_send 2 = .ok (.iload_n 2, 1) := by decide +kernel
theorem dL_send_3 : decode cL_send 3 = .ok (.invokevirtual 67, 3) := by decide +kernel
theorem dL_send_6 : decode cL_send 6 = .ok (.istore_n 3, 1) := by decide +kernel
theorem dL_send_7 : decode cL_send 7 = .ok (.goto 15, 3) := by decide +kernel
theorem dL_send_10 : decode cL_send 10 = .ok (.astore 4, 2) := by decide +kernel
theorem dL_send_12 : decode cL_send 12 = .ok (.sipush (-1000), 3) := by decide +kernel
theorem dL_send_15 : decode cL_send 15 = .ok (.ireturn, 1) := by decide +kernel
theorem dL_send_16 : decode cL_send 16 = .ok (.astore 4, 2) := by decide +kernel
theorem dL_send_18 : decode cL_send 18 = .ok (.sipush (-2000), 3) := by decide +kernel
theorem dL_send_21 : decode cL_send 21 = .ok (.ireturn, 1) := by decide +kernel
theorem dL_send_22 : decode cL_send 22 = .ok (.iload_n 3, 1) := by decide +kernel
theorem dL_send_23 : decode cL_send 23 = .ok (.ireturn, 1) := by decide +kernel
set_option maxRecDepth 20000 in
theorem ggL_step_X6_step : GoodIn wsL_step wsX6_step := goodIn_ca (goodIn_r _ [6, 7, 8, 9, 10, 11, 12, 13, 14, 15, 16, 17, 18, 19, 20, 21, 22, 23, 24, 25, 26, 27, 28, 29, 30, 31, 32, 33, 34, 35, 36, 37, 38, 39, 40, 41, 42, 43, 44, 45, 46, 47, 48, 49, 50, 51, 52, 53, 54, 55, 56, 57, 5, 58, 59, 60, 61, 62, 63, 64, 65, 66, 67, 68, 69, 70, 71, 72, 73, 74, 75, 76, 77, 78, 79, 80, 81, 82, 83, 84, 85, 86, 87, 88, 89, 90, 91, 92, 93, 94, 95, 96, 97, 98, 99, 100, 101, 102, 103, 104, 105, 106, 107, 108, 109, 110, 111, 112, 113, 114, 115, 116] (by decide +kernel) (by decide +kernel)) (goodIn_sub (fun _ h => List.mem_cons_of_mem _ (List.mem_append_right _ h)) (by decide +kernel))
set_option maxRecDepth 20000 in
theorem gL_step_X6_step : GoodIn wsL_step (wsV RL 70 RX6 yX6_step wsX6_step) := goodIn_app (goodIn_of _ (by decide +kernel)) ggL_step_X6_step
theorem dL_step_0 : decode cL_step 0 = .ok (.aload_n 0, 1) := by decide +kernel
theorem dL_step_1 : decode cL_step 1 = .ok (.iload_n 1, 1) := by decide +kernel
theorem dL_step_2 : decode cL_step 2 = .ok (.invokevirtual 70, 3) := by decide +kernel
theorem dL_step_5 : decode cL_step 5 = .ok (.istore_n 2, 1) := by decide +kernel
theorem dL_step_6 : decode cL_step 6 = .ok (.goto 8, 3) := by decide +kernel
theorem dL_step_9 : decode cL_step 9 = .ok (.astore_n 3, 1) := by decide +kernel
theorem dL_step_10 : decode cL_step 10 = .ok (.sipush (-1000), 3) := by decide +kernel
theorem dL_step_13 : decode cL_step 13 = .ok (.ireturn, 1) := by decide +kernel
theorem dL_step_14 : decode cL_step 14 = .ok (.iload_n 2, 1) := by decide +kernel
theorem dL_step_15 : decode cL_step 15 = .ok (.ireturn, 1) := by decide +kernel
set_option maxRecDepth 20000 in
theorem ggL_state_X6_state : GoodIn wsL_state wsX6_state := goodIn_ca (goodIn_r _ [6, 7, 8, 9, 10, 5, 11, 12, 13, 14, 15, 16, 17, 18, 19, 20, 21, 22, 23, 24, 25, 26, 27, 28, 29, 30, 31] (by decide +kernel) (by decide +kernel)) (goodIn_sub (fun _ h => List.mem_cons_of_mem _ (List.mem_append_right _ h)) (by decide +kernel))
set_option maxRecDepth 20000 in
theorem gL_state_X6_state : GoodIn wsL_state (wsV RL 73 RX6 yX6_state wsX6_state) := goodIn_app (goodIn_of _ (by decide +kernel)) ggL_state_X6_state
theorem dL_state_0 : decode cL_state 0 = .ok (.aload_n 0, 1) := by decide +kernel
theorem dL_state_1 : decode cL_state 1 = .ok (.iload_n 1, 1) := by decide +kernel
theorem dL_state_2 : decode cL_state 2 = .ok (.invokevirtual 73, 3) := by decide +kernel
theorem dL_state_5 : decode cL_state 5 = .ok (.istore_n 2, 1) := by decide +kernel
theorem dL_state_6 : decode cL_state 6 = .ok (.goto 8, 3) := by decide +kernel
theorem dL_state_9 : decode cL_state 9 = .ok (.astore_n 3, 1) := by decide +kernel
theorem dL_state_10 : decode cL_state 10 = .ok (.sipush (-1000), 3) := by decide +kernel
theorem dL_state_13 : decode cL_state 13 = .ok (.ireturn, 1) := by decide +kernel
theorem dL_state_14 : decode cL_state 14 = .ok (.iload_n 2, 1) := by decide +kernel
theorem dL_state_15 : decode cL_state 15 = .ok (.ireturn, 1) := by decide +kernel
set_option maxRecDepth 20000 in
theorem ggL_position_X6_position : GoodIn wsL_position wsX6_position := goodIn_ca (goodIn_r _ [6, 7, 8, 9, 10, 5, 11, 12, 13, 14, 15, 16, 17, 18, 19, 20, 21, 22, 23, 24, 25, 26, 27, 28, 29, 30, 31] (by decide +kernel) (by decide +kernel)) (goodIn_sub (fun _ h => List.mem_cons_of_mem _ (List.mem_append_right _ h)) (by decide +kernel))
set_option maxRecDepth 20000 in
theorem gL_position_X6_position : GoodIn wsL_position (wsV RL 76 RX6 yX6_position wsX6_position) := goodIn_app (goodIn_of _ (by decide +kernel)) ggL_position_X6_position
theorem dL_position_0 : decode cL_position 0 = .ok (.aload_n 0, 1) := by decide +kernel
theorem dL_position_1 : decode cL_position 1 = .ok (.iload_n 1, 1) := by decide +kernel
theorem dL_position_2 : decode cL_position 2 = .ok (.invokevirtual 76, 3) := by decide +kernel
theorem dL_position_5 : decode cL_position 5 = .ok (.istore_n 2, 1) := by decide +kernel
theorem dL_position_6 : decode cL_position 6 = .ok (.goto 8, 3) := by decide +kernel
theorem dL_position_9 : decode cL_position 9 = .ok (.astore_n 3, 1) := by decide +kernel
theorem dL_position_10 : decode cL_position 10 = .ok (.sipush (-1000), 3) := by decide +kernel
theorem dL_position_13 : decode cL_position 13 = .ok (.ireturn, 1) := by decide +kernel
theorem dL_position_14 : decode cL_position 14 = .ok (.iload_n 2, 1) := by decide +kernel
theorem dL_position_15 : decode cL_position 15 = .ok (.ireturn, 1) := by decide +kernel
set_option maxRecDepth 20000 in
theorem ggL_moves_X6_moves : GoodIn wsL_moves wsX6_moves := goodIn_ca (goodIn_r _ [6, 7, 8, 9, 10, 5, 11, 12, 13, 14, 15, 16, 17, 18, 19, 20, 21, 22, 23, 24, 25, 26, 27, 28, 29, 30, 31] (by decide +kernel) (by decide +kernel)) (goodIn_sub (fun _ h => List.mem_cons_of_mem _ (List.mem_append_right _ h)) (by decide +kernel))
set_option maxRecDepth 20000 in
theorem gL_moves_X6_moves : GoodIn wsL_moves (wsV RL 79 RX6 yX6_moves wsX6_moves) := goodIn_app (goodIn_of _ (by decide +kernel)) ggL_moves_X6_moves
theorem dL_moves_0 : decode cL_moves 0 = .ok (.aload_n 0, 1) := by decide +kernel
theorem dL_moves_1 : decode cL_moves 1 = .ok (.iload_n 1, 1) := by decide +kernel
theorem dL_moves_2 : decode cL_moves 2 = .ok (.invokevirtual 79, 3) := by decide +kernel
theorem dL_moves_5 : decode cL_moves 5 = .ok (.istore_n 2, 1) := by decide +kernel
theorem dL_moves_6 : decode cL_moves 6 = .ok (.goto 8, 3) := by decide +kernel
theorem dL_moves_9 : decode cL_moves 9 = .ok (.astore_n 3, 1) := by decide +kernel
theorem dL_moves_10 : decode cL_moves 10 = .ok (.sipush (-1000), 3) := by decide +kernel
theorem dL_moves_13 : decode cL_moves 13 = .ok (.ireturn, 1) := by decide +kernel
theorem dL_moves_14 : decode cL_moves 14 = .ok (.iload_n 2, 1) := by decide +kernel
theorem dL_moves_15 : decode cL_moves 15 = .ok (.ireturn, 1) := by decide +kernel
set_option maxRecDepth 20000 in
theorem ggL_count_X6_count : GoodIn wsL_count wsX6_count := goodIn_ca (goodIn_r _ [6, 7, 8, 9, 10, 11, 5, 12, 13, 14, 15, 16, 17, 18, 19, 20, 21, 22, 23, 24, 25, 26, 27] (by decide +kernel) (by decide +kernel)) (goodIn_sub (fun _ h => List.mem_cons_of_mem _ (List.mem_append_right _ h)) (by decide +kernel))
set_option maxRecDepth 20000 in
theorem gL_count_X6_count : GoodIn wsL_count (wsV RL 82 RX6 yX6_count wsX6_count) := goodIn_app (goodIn_of _ (by decide +kernel)) ggL_count_X6_count
theorem dL_count_0 : decode cL_count 0 = .ok (.aload_n 0, 1) := by decide +kernel
theorem dL_count_1 : decode cL_count 1 = .ok (.iload_n 1, 1) := by decide +kernel
theorem dL_count_2 : decode cL_count 2 = .ok (.invokevirtual 82, 3) := by decide +kernel
theorem dL_count_5 : decode cL_count 5 = .ok (.istore_n 2, 1) := by decide +kernel
theorem dL_count_6 : decode cL_count 6 = .ok (.goto 8, 3) := by decide +kernel
theorem dL_count_9 : decode cL_count 9 = .ok (.astore_n 3, 1) := by decide +kernel
theorem dL_count_10 : decode cL_count 10 = .ok (.sipush (-1000), 3) := by decide +kernel
theorem dL_count_13 : decode cL_count 13 = .ok (.ireturn, 1) := by decide +kernel
theorem dL_count_14 : decode cL_count 14 = .ok (.iload_n 2, 1) := by decide +kernel
theorem dL_count_15 : decode cL_count 15 = .ok (.ireturn, 1) := by decide +kernel
set_option maxRecDepth 20000 in
theorem ggL_undo_X6_undo : GoodIn wsL_undo wsX6_undo := goodIn_ca (goodIn_r _ [6, 7, 8, 9, 10, 11, 12, 13, 14, 15, 16, 17, 18, 19, 20, 21, 22, 23, 24, 25, 26, 27, 28, 29, 30, 31, 32, 33, 34, 35, 36, 37, 38, 39, 40, 41, 42, 43, 5, 44, 45, 46, 47, 48, 49, 50, 51, 52, 53, 54, 55, 56, 57, 58, 59, 60, 61, 62, 63, 64, 65, 66, 67, 68, 69, 70, 71, 72, 73, 74, 75, 76, 77, 78, 79, 80, 81, 82, 83, 84, 85, 86, 87, 88, 89, 90, 91, 92, 93, 94, 95, 96, 97, 98, 99, 100, 101, 102, 103, 104, 105, 106, 107, 108, 109, 110, 111, 112, 113, 114, 115] (by decide +kernel) (by decide +kernel)) (goodIn_sub (fun _ h => List.mem_cons_of_mem _ (List.mem_append_right _ h)) (by decide +kernel))
set_option maxRecDepth 20000 in
theorem gL_undo_X6_undo : GoodIn wsL_undo (wsV RL 85 RX6 yX6_undo wsX6_undo) := goodIn_app (goodIn_of _ (by decide +kernel)) ggL_undo_X6_undo
theorem dL_undo_0 : decode cL_undo 0 = .ok (.aload_n 0, 1) := by decide +kernel
theorem dL_undo_1 : decode cL_undo 1 = .ok (.invokevirtual 85, 3) := by decide +kernel
theorem dL_undo_4 : decode cL_undo 4 = .ok (.istore_n 1, 1) := by decide +kernel
theorem dL_undo_5 : decode cL_undo 5 = .ok (.goto 8, 3) := by decide +kernel
theorem dL_undo_8 : decode cL_undo 8 = .ok (.astore_n 2, 1) := by decide +kernel
theorem dL_undo_9 : decode cL_undo 9 = .ok (.sipush (-2000), 3) := by decide +kernel
theorem dL_undo_12 : decode cL_undo 12 = .ok (.ireturn, 1) := by decide +kernel
theorem dL_undo_13 : decode cL_undo 13 = .ok (.iload_n 1, 1) := by decide +kernel
theorem dL_undo_14 : decode cL_undo 14 = .ok (.ireturn, 1) := by decide +kernel
set_option maxRecDepth 20000 in
theorem ggL_areLevels_X6_rounds : GoodIn wsL_areLevels wsX6_rounds := goodIn_r _ [5, 6, 61, 62, 63, 64, 65, 66, 67, 68, 69, 70, 71] (by decide +kernel) (by decide +kernel)
set_option maxRecDepth 20000 in
theorem gL_areLevels_X6_rounds : GoodIn wsL_areLevels (wsV RL 89 RX6 yX6_rounds wsX6_rounds) := goodIn_app (goodIn_of _ (by decide +kernel)) ggL_areLevels_X6_rounds
set_option maxRecDepth 20000 in
theorem ggL_areLevels_L_level : GoodIn wsL_areLevels wsL_level := goodIn_ca (goodIn_r _ [10, 11, 12, 13, 14, 4, 15, 6, 16, 17, 18, 19, 20, 21, 22, 23, 24, 25, 26, 27, 28, 29, 30, 31, 32, 33, 34, 61, 62, 63, 64, 65, 66, 72, 73, 74, 75, 76, 77, 78, 79, 80, 67, 68, 69, 70, 71] (by decide +kernel) (by decide +kernel)) (goodIn_sub (fun _ h => List.mem_cons_of_mem _ (List.mem_append_right _ h)) (by decide +kernel))
set_option maxRecDepth 20000 in
theorem gL_areLevels_L_level : GoodIn wsL_areLevels (va_wsS RL 92 yL_level wsL_level) := goodIn_app (goodIn_of _ (by decide +kernel)) ggL_areLevels_L_level
set_option maxRecDepth 20000 in
theorem ggL_areLevels_L_isAlive : GoodIn wsL_areLevels wsL_isAlive := goodIn_ca (goodIn_r _ [37, 11, 38, 39, 40, 4, 41, 26, 16, 17, 18, 19, 20, 21, 22, 23, 24, 25, 42, 43, 44, 61, 62, 63, 64, 65, 66, 72, 73, 74, 75, 76, 77, 78, 79, 80] (by decide +kernel) (by decide +kernel)) (goodIn_sub (fun _ h => List.mem_cons_of_mem _ (List.mem_append_right _ h)) (by decide +kernel))
set_option maxRecDepth 20000 in
theorem gL_areLevels_L_isAlive : GoodIn wsL_areLevels (va_wsS RL 97 yL_isAlive wsL_isAlive) := goodIn_app (goodIn_of _ (by decide +kernel)) ggL_areLevels_L_isAlive
set_option maxRecDepth 20000 in
theorem ggL_areLevels_L_vectorBit : GoodIn wsL_areLevels wsL_vectorBit := goodIn_ca (goodIn_r _ [47, 11, 48, 49, 50, 4, 51, 20, 21, 26, 6, 16, 17, 18, 19, 22, 23, 24, 25, 52, 53, 54, 30, 55, 56, 43, 44, 61, 62, 63, 64, 65, 66, 72, 73, 74, 75, 76, 77, 78, 79, 80, 67, 68, 69, 70, 71] (by decide +kernel) (by decide +kernel)) (goodIn_sub (fun _ h => List.mem_cons_of_mem _ (List.mem_append_right _ h)) (by decide +kernel))
set_option maxRecDepth 20000 in
theorem gL_areLevels_L_vectorBit : GoodIn wsL_areLevels (va_wsS RL 99 yL_vectorBit wsL_vectorBit) := goodIn_app (goodIn_of _ (by decide +kernel)) ggL_areLevels_L_vectorBit
set_option maxRecDepth 20000 in
theorem ggL_areLevels_X6_safeNodes : GoodIn wsL_areLevels wsX6_safeNodes := goodIn_r _ [60, 6, 26, 22, 23, 24, 4, 25, 27, 28, 29, 30, 31, 32, 33, 34, 61, 62, 63, 64, 65, 66, 72, 73, 74, 75, 76, 77, 78, 79, 80, 67, 68, 69, 70, 71] (by decide +kernel) (by decide +kernel)
set_option maxRecDepth 20000 in
theorem gL_areLevels_X6_safeNodes : GoodIn wsL_areLevels (wsV RL 102 RX6 yX6_safeNodes wsX6_safeNodes) := goodIn_app (goodIn_of _ (by decide +kernel)) ggL_areLevels_X6_safeNodes
theorem dL_areLevels_0 : decode cL_areLevels 0 = .ok (.iconst 0, 1) := by decide +kernel
theorem dL_areLevels_1 : decode cL_areLevels 1 = .ok (.istore_n 2, 1) := by decide +kernel
theorem dL_areLevels_2 : decode cL_areLevels 2 = .ok (.aload_n 0, 1) := by decide +kernel
theorem dL_areLevels_3 : decode cL_areLevels 3 = .ok (.invokevirtual 89, 3) := by decide +kernel
theorem dL_areLevels_6 : decode cL_areLevels 6 = .ok (.ifCond .lt 7, 3) := by decide +kernel
theorem dL_areLevels_9 : decode cL_areLevels 9 = .ok (.iconst 1, 1) := by decide +kernel
theorem dL_areLevels_10 : decode cL_areLevels 10 = .ok (.goto 4, 3) := by decide +kernel
theorem dL_areLevels_13 : decode cL_areLevels 13 = .ok (.iconst 0, 1) := by decide +kernel
theorem dL_areLevels_14 : decode cL_areLevels 14 = .ok (.istore_n 3, 1) := by decide +kernel
theorem dL_areLevels_15 : decode cL_areLevels 15 = .ok (.iconst 0, 1) := by decide +kernel
theorem dL_areLevels_16 : decode cL_areLevels 16 = .ok (.istore 4, 2) := by decide +kernel
theorem dL_areLevels_18 : decode cL_areLevels 18 = .ok (.iload 4, 2) := by decide +kernel
theorem dL_areLevels_20 : decode cL_areLevels 20 = .ok (.iconst 1, 1) := by decide +kernel
theorem dL_areLevels_21 : decode cL_areLevels 21 = .ok (.iload_n 1, 1) := by decide +kernel
theorem dL_areLevels_22 : decode cL_areLevels 22 = .ok (.ishl, 1) := by decide +kernel
theorem dL_areLevels_23 : decode cL_areLevels 23 = .ok (.if_icmp .ge 211, 3) := by decide +kernel
theorem dL_areLevels_26 : decode cL_areLevels 26 = .ok (.iload_n 3, 1) := by decide +kernel
theorem dL_areLevels_27 : decode cL_areLevels 27 = .ok (.ifCond .eq 207, 3) := by decide +kernel
theorem dL_areLevels_30 : decode cL_areLevels 30 = .ok (.aload_n 0, 1) := by decide +kernel
theorem dL_areLevels_31 : decode cL_areLevels 31 = .ok (.iload 4, 2) := by decide +kernel
theorem dL_areLevels_33 : decode cL_areLevels 33 = .ok (.invokestatic 92, 3) := by decide +kernel
theorem dL_areLevels_36 : decode cL_areLevels 36 = .ok (.istore 5, 2) := by decide +kernel
theorem dL_areLevels_38 : decode cL_areLevels 38 = .ok (.iload_n 2, 1) := by decide +kernel
theorem dL_areLevels_39 : decode cL_areLevels 39 = .ok (.iload 5, 2) := by decide +kernel
theorem dL_areLevels_41 : decode cL_areLevels 41 = .ok (.iload_n 1, 1) := by decide +kernel
theorem dL_areLevels_42 : decode cL_areLevels 42 = .ok (.if_icmp .ne 7, 3) := by decide +kernel
theorem dL_areLevels_45 : decode cL_areLevels 45 = .ok (.iconst 1, 1) := by decide +kernel
theorem dL_areLevels_46 : decode cL_areLevels 46 = .ok (.goto 4, 3) := by decide +kernel
theorem dL_areLevels_49 : decode cL_areLevels 49 = .ok (.iconst 0, 1) := by decide +kernel
theorem dL_areLevels_50 : decode cL_areLevels 50 = .ok (.iadd, 1) := by decide +kernel
theorem dL_areLevels_51 : decode cL_areLevels 51 = .ok (.istore_n 2, 1) := by decide +kernel
theorem dL_areLevels_52 : decode cL_areLevels 52 = .ok (.aload_n 0, 1) := by decide +kernel
theorem dL_areLevels_53 : decode cL_areLevels 53 = .ok (.iload 4, 2) := by decide +kernel
theorem dL_areLevels_55 : decode cL_areLevels 55 = .ok (.invokestatic 97, 3) := by decide +kernel
theorem dL_areLevels_58 : decode cL_areLevels 58 = .ok (.ifCond .ne 37, 3) := by decide +kernel
theorem dL_areLevels_61 : decode cL_areLevels 61 = .ok (.iload 5, 2) := by decide +kernel
theorem dL_areLevels_63 : decode cL_areLevels 63 = .ok (.ifCond .ne 27, 3) := by decide +kernel
theorem dL_areLevels_66 : decode cL_areLevels 66 = .ok (.aload_n 0, 1) := by decide +kernel
theorem dL_areLevels_67 : decode cL_areLevels 67 = .ok (.iload 4, 2) := by decide +kernel
theorem dL_areLevels_69 : decode cL_areLevels 69 = .ok (.iconst 1, 1) := by decide +kernel
theorem dL_areLevels_70 : decode cL_areLevels 70 = .ok (.invokestatic 99, 3) := by decide +kernel
theorem dL_areLevels_73 : decode cL_areLevels 73 = .ok (.ifCond .ne 17, 3) := by decide +kernel
theorem dL_areLevels_76 : decode cL_areLevels 76 = .ok (.aload_n 0, 1) := by decide +kernel
theorem dL_areLevels_77 : decode cL_areLevels 77 = .ok (.iload 4, 2) := by decide +kernel
theorem dL_areLevels_79 : decode cL_areLevels 79 = .ok (.iload_n 1, 1) := by decide +kernel
theorem dL_areLevels_80 : decode cL_areLevels 80 = .ok (.invokestatic 99, 3) := by decide +kernel
theorem dL_areLevels_83 : decode cL_areLevels 83 = .ok (.ifCond .ne 7, 3) := by decide +kernel
theorem dL_areLevels_86 : decode cL_areLevels 86 = .ok (.iconst 1, 1) := by decide +kernel
theorem dL_areLevels_87 : decode cL_areLevels 87 = .ok (.goto 4, 3) := by decide +kernel
theorem dL_areLevels_90 : decode cL_areLevels 90 = .ok (.iconst 0, 1) := by decide +kernel
theorem dL_areLevels_91 : decode cL_areLevels 91 = .ok (.istore_n 3, 1) := by decide +kernel
theorem dL_areLevels_92 : decode cL_areLevels 92 = .ok (.goto 136, 3) := by decide +kernel
theorem dL_areLevels_95 : decode cL_areLevels 95 = .ok (.iload 5, 2) := by decide +kernel
theorem dL_areLevels_97 : decode cL_areLevels 97 = .ok (.ifCond .le 24, 3) := by decide +kernel
theorem dL_areLevels_100 : decode cL_areLevels 100 = .ok (.iload 5, 2) := by decide +kernel
theorem dL_areLevels_102 : decode cL_areLevels 102 = .ok (.iload_n 1, 1) := by decide +kernel
theorem dL_areLevels_103 : decode cL_areLevels 103 = .ok (.if_icmp .gt 18, 3) := by decide +kernel
theorem dL_areLevels_106 : decode cL_areLevels 106 = .ok (.aload_n 0, 1) := by decide +kernel
theorem dL_areLevels_107 : decode cL_areLevels 107 = .ok (.iload 4, 2) := by decide +kernel
theorem dL_areLevels_109 : decode cL_areLevels 109 = .ok (.iconst 1, 1) := by decide +kernel
theorem dL_areLevels_110 : decode cL_areLevels 110 = .ok (.invokestatic 99, 3) := by decide +kernel
theorem dL_areLevels_113 : decode cL_areLevels 113 = .ok (.iconst 1, 1) := by decide +kernel
theorem dL_areLevels_114 : decode cL_areLevels 114 = .ok (.if_icmp .ne 7, 3) := by decide +kernel
theorem dL_areLevels_117 : decode cL_areLevels 117 = .ok (.iconst 1, 1) := by decide +kernel
theorem dL_areLevels_118 : decode cL_areLevels 118 = .ok (.goto 4, 3) := by decide +kernel
theorem dL_areLevels_121 : decode cL_areLevels 121 = .ok (.iconst 0, 1) := by decide +kernel
theorem dL_areLevels_122 : decode cL_areLevels 122 = .ok (.istore_n 3, 1) := by decide +kernel
theorem dL_areLevels_123 : decode cL_areLevels 123 = .ok (.iconst 1, 1) := by decide +kernel
theorem dL_areLevels_124 : decode cL_areLevels 124 = .ok (.istore 6, 2) := by decide +kernel
theorem dL_areLevels_126 : decode cL_areLevels 126 = .ok (.iload 6, 2) := by decide +kernel
theorem dL_areLevels_128 : decode cL_areLevels 128 = .ok (.iload 5, 2) := by decide +kernel
theorem dL_areLevels_130 : decode cL_areLevels 130 = .ok (.if_icmp .gt 98, 3) := by decide +kernel
theorem dL_areLevels_133 : decode cL_areLevels 133 = .ok (.iload_n 3, 1) := by decide +kernel
theorem dL_areLevels_134 : decode cL_areLevels 134 = .ok (.ifCond .eq 94, 3) := by decide +kernel
theorem dL_areLevels_137 : decode cL_areLevels 137 = .ok (.iconst 0, 1) := by decide +kernel
theorem dL_areLevels_138 : decode cL_areLevels 138 = .ok (.istore 7, 2) := by decide +kernel
theorem dL_areLevels_140 : decode cL_areLevels 140 = .ok (.iconst 0, 1) := by decide +kernel
theorem dL_areLevels_141 : decode cL_areLevels 141 = .ok (.istore 8, 2) := by decide +kernel
theorem dL_areLevels_143 : decode cL_areLevels 143 = .ok (.iload 8, 2) := by decide +kernel
theorem dL_areLevels_145 : decode cL_areLevels 145 = .ok (.iload_n 1, 1) := by decide +kernel
theorem dL_areLevels_146 : decode cL_areLevels 146 = .ok (.if_icmp .ge 35, 3) := by decide +kernel
theorem dL_areLevels_149 : decode cL_areLevels 149 = .ok (.iload 7, 2) := by decide +kernel
theorem dL_areLevels_151 : decode cL_areLevels 151 = .ok (.aload_n 0, 1) := by decide +kernel
theorem dL_areLevels_152 : decode cL_areLevels 152 = .ok (.iload 4, 2) := by decide +kernel
theorem dL_areLevels_154 : decode cL_areLevels 154 = .ok (.iconst 1, 1) := by decide +kernel
theorem dL_areLevels_155 : decode cL_areLevels 155 = .ok (.iload 8, 2) := by decide +kernel
theorem dL_areLevels_157 : decode cL_areLevels 157 = .ok (.ishl, 1) := by decide +kernel
theorem dL_areLevels_158 : decode cL_areLevels 158 = .ok (.ixor, 1) := by decide +kernel
theorem dL_areLevels_159 : decode cL_areLevels 159 = .ok (.invokestatic 92, 3) := by decide +kernel
theorem dL_areLevels_162 : decode cL_areLevels 162 = .ok (.iload 6, 2) := by decide +kernel
theorem dL_areLevels_164 : decode cL_areLevels 164 = .ok (.if_icmp .ge 7, 3) := by decide +kernel
theorem dL_areLevels_167 : decode cL_areLevels 167 = .ok (.iconst 1, 1) := by decide +kernel
theorem dL_areLevels_168 : decode cL_areLevels 168 = .ok (.goto 4, 3) := by decide +kernel
theorem dL_areLevels_171 : decode cL_areLevels 171 = .ok (.iconst 0, 1) := by decide +kernel
theorem dL_areLevels_172 : decode cL_areLevels 172 = .ok (.iadd, 1) := by decide +kernel
theorem dL_areLevels_173 : decode cL_areLevels 173 = .ok (.istore 7, 2) := by decide +kernel
theorem dL_areLevels_175 : decode cL_areLevels 175 = .ok (.iinc 8 1, 3) := by decide +kernel
theorem dL_areLevels_178 : decode cL_areLevels 178 = .ok (.goto (-35), 3) := by decide +kernel
theorem dL_areLevels_181 : decode cL_areLevels 181 = .ok (.iload 6, 2) := by decide +kernel
theorem dL_areLevels_183 : decode cL_areLevels 183 = .ok (.iload 5, 2) := by decide +kernel
theorem dL_areLevels_185 : decode cL_areLevels 185 = .ok (.if_icmp .ge 18, 3) := by decide +kernel
theorem dL_areLevels_188 : decode cL_areLevels 188 = .ok (.iload 7, 2) := by decide +kernel
theorem dL_areLevels_190 : decode cL_areLevels 190 = .ok (.iload 6, 2) := by decide +kernel
theorem dL_areLevels_192 : decode cL_areLevels 192 = .ok (.if_icmp .gt 7, 3) := by decide +kernel
theorem dL_areLevels_195 : decode cL_areLevels 195 = .ok (.iconst 1, 1) := by decide +kernel
theorem dL_areLevels_196 : decode cL_areLevels 196 = .ok (.goto 25, 3) := by decide +kernel
theorem dL_areLevels_199 : decode cL_areLevels 199 = .ok (.iconst 0, 1) := by decide +kernel
theorem dL_areLevels_200 : decode cL_areLevels 200 = .ok (.goto 21, 3) := by decide +kernel
theorem dL_areLevels_203 : decode cL_areLevels 203 = .ok (.iload 5, 2) := by decide +kernel
theorem dL_areLevels_205 : decode cL_areLevels 205 = .ok (.iload_n 1, 1) := by decide +kernel
theorem dL_areLevels_206 : decode cL_areLevels 206 = .ok (.if_icmp .eq 10, 3) := by decide +kernel
theorem dL_areLevels_209 : decode cL_areLevels 209 = .ok (.iload 7, 2) := by decide +kernel
theorem dL_areLevels_211 : decode cL_areLevels 211 = .ok (.iload 6, 2) := by decide +kernel
theorem dL_areLevels_213 : decode cL_areLevels 213 = .ok (.if_icmp .le 7, 3) := by decide +kernel
theorem dL_areLevels_216 : decode cL_areLevels 216 = .ok (.iconst 1, 1) := by decide +kernel
theorem dL_areLevels_217 : decode cL_areLevels 217 = .ok (.goto 4, 3) := by decide +kernel
theorem dL_areLevels_220 : decode cL_areLevels 220 = .ok (.iconst 0, 1) := by decide +kernel
theorem dL_areLevels_221 : decode cL_areLevels 221 = .ok (.istore_n 3, 1) := by decide +kernel
theorem dL_areLevels_222 : decode cL_areLevels 222 = .ok (.iinc 6 1, 3) := by decide +kernel
theorem dL_areLevels_225 : decode cL_areLevels 225 = .ok (.goto (-99), 3) := by decide +kernel
theorem dL_areLevels_228 : decode cL_areLevels 228 = .ok (.iinc 4 1, 3) := by decide +kernel
theorem dL_areLevels_231 : decode cL_areLevels 231 = .ok (.goto (-213), 3) := by decide +kernel
theorem dL_areLevels_234 : decode cL_areLevels 234 = .ok (.iload_n 3, 1) := by decide +kernel
theorem dL_areLevels_235 : decode cL_areLevels 235 = .ok (.ifCond .eq 15, 3) := by decide +kernel
theorem dL_areLevels_238 : decode cL_areLevels 238 = .ok (.aload_n 0, 1) := by decide +kernel
theorem dL_areLevels_239 : decode cL_areLevels 239 = .ok (.invokevirtual 102, 3) := by decide +kernel
theorem dL_areLevels_242 : decode cL_areLevels 242 = .ok (.iload_n 2, 1) := by decide +kernel
theorem dL_areLevels_243 : decode cL_areLevels 243 = .ok (.if_icmp .ne 7, 3) := by decide +kernel
theorem dL_areLevels_246 : decode cL_areLevels 246 = .ok (.iconst 1, 1) := by decide +kernel
theorem dL_areLevels_247 : decode cL_areLevels 247 = .ok (.goto 4, 3) := by decide +kernel
theorem dL_areLevels_250 : decode cL_areLevels 250 = .ok (.iconst 0, 1) := by decide +kernel
theorem dL_areLevels_251 : decode cL_areLevels 251 = .ok (.ireturn, 1) := by decide +kernel
set_option maxRecDepth 20000 in
theorem ggL_isRoute_L_distance : GoodIn wsL_isRoute wsL_distance := goodIn_ca (goodIn_r _ [4, 5, 6, 7, 8, 9, 10, 11, 12, 13, 14, 15, 16, 17, 18, 19, 20, 21, 22, 23, 24, 25, 26, 27, 28, 129, 130, 131, 132, 133, 134, 135, 136, 137, 138, 139, 140, 141, 142, 143] (by decide +kernel) (by decide +kernel)) (goodIn_sub (fun _ h => List.mem_cons_of_mem _ (List.mem_append_left _ (List.mem_append_right _ h))) (by decide +kernel))
set_option maxRecDepth 20000 in
theorem gL_isRoute_L_distance : GoodIn wsL_isRoute (va_wsS RL 105 yL_distance wsL_distance) := goodIn_app (goodIn_of _ (by decide +kernel)) ggL_isRoute_L_distance
set_option maxRecDepth 20000 in
theorem ggL_isRoute_L_shortest : GoodIn wsL_isRoute wsL_shortest := goodIn_ca (goodIn_ca (goodIn_r _ [31, 5, 32, 33, 34, 35, 9, 36, 21, 37, 38, 39, 40, 11, 12, 13, 14, 15, 16, 17, 18, 19, 20, 41, 42, 43, 44, 45, 46, 47, 48, 49, 50, 51, 52, 53, 54, 55, 56, 129, 130, 131, 132, 133, 134, 135, 136, 137, 138, 139, 140, 141, 142, 143] (by decide +kernel) (by decide +kernel)) (goodIn_sub (fun _ h => List.mem_cons_of_mem _ (List.mem_append_left _ (List.mem_append_right _ h))) (by decide +kernel))) (goodIn_sub (fun _ h => List.mem_cons_of_mem _ (List.mem_append_right _ h)) (by decide +kernel))
set_option maxRecDepth 20000 in
theorem gL_isRoute_L_shortest : GoodIn wsL_isRoute (va_wsS RL 107 yL_shortest wsL_shortest) := goodIn_app (goodIn_of _ (by decide +kernel)) ggL_isRoute_L_shortest
set_option maxRecDepth 20000 in
theorem ggL_isRoute_L_isAlive : GoodIn wsL_isRoute wsL_isAlive := goodIn_ca (goodIn_r _ [59, 5, 60, 61, 62, 9, 63, 21, 11, 12, 13, 14, 15, 16, 17, 18, 19, 20, 47, 48, 49, 129, 130, 131, 132, 133, 134, 135, 136, 137, 138, 139, 140, 141, 142, 143] (by decide +kernel) (by decide +kernel)) (goodIn_sub (fun _ h => List.mem_cons_of_mem _ (List.mem_append_left _ (List.mem_append_right _ h))) (by decide +kernel))
set_option maxRecDepth 20000 in
theorem gL_isRoute_L_isAlive : GoodIn wsL_isRoute (va_wsS RL 97 yL_isAlive wsL_isAlive) := goodIn_app (goodIn_of _ (by decide +kernel)) ggL_isRoute_L_isAlive
set_option maxRecDepth 20000 in
theorem ggL_isRoute_L_decide : GoodIn wsL_isRoute wsL_decide := goodIn_ca (goodIn_ca (goodIn_r _ [66, 5, 32, 67, 68, 69, 9, 70, 37, 38, 39, 40, 11, 12, 13, 14, 15, 16, 17, 18, 19, 20, 21, 41, 42, 43, 44, 45, 46, 47, 48, 49, 71, 72, 73, 74, 75, 22, 23, 24, 25, 26, 27, 28, 76, 77, 78, 79, 80, 81, 82, 83, 84, 85, 86, 87, 88, 89, 90, 91, 92, 93, 94, 95, 96, 97, 98, 99, 100, 101, 129, 130, 131, 132, 133, 134, 135, 136, 137, 138, 139, 140, 141, 142, 143, 144, 145, 146, 147, 148] (by decide +kernel) (by decide +kernel)) (goodIn_sub (fun _ h => List.mem_cons_of_mem _ (List.mem_append_left _ (List.mem_append_right _ h))) (by decide +kernel))) (goodIn_sub (fun _ h => List.mem_cons_of_mem _ (List.mem_append_right _ h)) (by decide +kernel))
set_option maxRecDepth 20000 in
theorem gL_isRoute_L_decide : GoodIn wsL_isRoute (va_wsS RL 109 yL_decide wsL_decide) := goodIn_app (goodIn_of _ (by decide +kernel)) ggL_isRoute_L_decide
set_option maxRecDepth 20000 in
theorem ggL_isRoute_L_routeLength : GoodIn wsL_isRoute wsL_routeLength := goodIn_ca (goodIn_ca (goodIn_r _ [104, 5, 32, 105, 106, 107, 9, 108, 37, 38, 39, 40, 11, 12, 13, 14, 15, 16, 17, 18, 19, 20, 21, 41, 42, 43, 44, 45, 46, 47, 48, 49, 109, 110, 111, 112, 71, 72, 73, 74, 75, 22, 23, 24, 25, 26, 27, 28, 76, 77, 78, 79, 80, 81, 82, 83, 84, 85, 86, 87, 88, 89, 90, 91, 92, 93, 94, 95, 96, 97, 98, 99, 100, 101, 129, 130, 131, 132, 133, 134, 135, 136, 137, 138, 139, 140, 141, 142, 143, 144, 145, 146, 147, 148] (by decide +kernel) (by decide +kernel)) (goodIn_sub (fun _ h => List.mem_cons_of_mem _ (List.mem_append_left _ (List.mem_append_right _ h))) (by decide +kernel))) (goodIn_sub (fun _ h => List.mem_cons_of_mem _ (List.mem_append_right _ h)) (by decide +kernel))
set_option maxRecDepth 20000 in
theorem gL_isRoute_L_routeLength : GoodIn wsL_isRoute (va_wsS RL 111 yL_routeLength wsL_routeLength) := goodIn_app (goodIn_of _ (by decide +kernel)) ggL_isRoute_L_routeLength
set_option maxRecDepth 20000 in
theorem ggL_isRoute_L_ones : GoodIn wsL_isRoute wsL_ones := goodIn_r _ [115] (by decide +kernel) (by decide +kernel)
set_option maxRecDepth 20000 in
theorem gL_isRoute_L_ones : GoodIn wsL_isRoute (va_wsS RL 113 yL_ones wsL_ones) := goodIn_app (goodIn_of _ (by decide +kernel)) ggL_isRoute_L_ones
set_option maxRecDepth 20000 in
theorem ggL_isRoute_L_routeNode : GoodIn wsL_isRoute wsL_routeNode := goodIn_ca (goodIn_ca (goodIn_r _ [118, 5, 32, 119, 120, 121, 9, 122, 15, 16, 11, 12, 13, 14, 17, 18, 19, 20, 21, 41, 42, 43, 44, 45, 46, 47, 48, 49, 109, 110, 111, 112, 71, 72, 73, 74, 75, 22, 23, 24, 25, 26, 27, 28, 76, 77, 78, 79, 80, 81, 82, 83, 84, 85, 86, 87, 88, 89, 90, 91, 92, 93, 94, 95, 96, 97, 98, 99, 100, 101, 123, 124, 125, 126, 127, 128, 129, 130, 131, 132, 133, 134, 135, 136, 137, 138, 139, 140, 141, 142, 143, 144, 145, 146, 147, 148] (by decide +kernel) (by decide +kernel)) (goodIn_sub (fun _ h => List.mem_cons_of_mem _ (List.mem_append_left _ (List.mem_append_right _ h))) (by decide +kernel))) (goodIn_sub (fun _ h => List.mem_cons_of_mem _ (List.mem_append_right _ h)) (by decide +kernel))
set_option maxRecDepth 20000 in
theorem gL_isRoute_L_routeNode : GoodIn wsL_isRoute (va_wsS RL 116 yL_routeNode wsL_routeNode) := goodIn_app (goodIn_of _ (by decide +kernel)) ggL_isRoute_L_routeNode
theorem dL_isRoute_0 : decode cL_isRoute 0 = .ok (.aload_n 0, 1) := by decide +kernel
theorem dL_isRoute_1 : decode cL_isRoute 1 = .ok (.iload_n 1, 1) := by decide +kernel
theorem dL_isRoute_2 : decode cL_isRoute 2 = .ok (.iload_n 2, 1) := by decide +kernel
theorem dL_isRoute_3 : decode cL_isRoute 3 = .ok (.invokestatic 105, 3) := by decide +kernel
theorem dL_isRoute_6 : decode cL_isRoute 6 = .ok (.istore_n 3, 1) := by decide +kernel
theorem dL_isRoute_7 : decode cL_isRoute 7 = .ok (.aload_n 0, 1) := by decide +kernel
theorem dL_isRoute_8 : decode cL_isRoute 8 = .ok (.iload_n 1, 1) := by decide +kernel
theorem dL_isRoute_9 : decode cL_isRoute 9 = .ok (.iload_n 2, 1) := by decide +kernel
theorem dL_isRoute_10 : decode cL_isRoute 10 = .ok (.invokestatic 107, 3) := by decide +kernel
theorem dL_isRoute_13 : decode cL_isRoute 13 = .ok (.istore 4, 2) := by decide +kernel
theorem dL_isRoute_15 : decode cL_isRoute 15 = .ok (.iload 4, 2) := by decide +kernel
theorem dL_isRoute_17 : decode cL_isRoute 17 = .ok (.sipush (-2000), 3) := by decide +kernel
theorem dL_isRoute_20 : decode cL_isRoute 20 = .ok (.if_icmp .ne 49, 3) := by decide +kernel
theorem dL_isRoute_23 : decode cL_isRoute 23 = .ok (.aload_n 0, 1) := by decide +kernel
theorem dL_isRoute_24 : decode cL_isRoute 24 = .ok (.iload_n 1, 1) := by decide +kernel
theorem dL_isRoute_25 : decode cL_isRoute 25 = .ok (.invokestatic 97, 3) := by decide +kernel
theorem dL_isRoute_28 : decode cL_isRoute 28 = .ok (.ifCond .eq 11, 3) := by decide +kernel
theorem dL_isRoute_31 : decode cL_isRoute 31 = .ok (.aload_n 0, 1) := by decide +kernel
theorem dL_isRoute_32 : decode cL_isRoute 32 = .ok (.iload_n 2, 1) := by decide +kernel
theorem dL_isRoute_33 : decode cL_isRoute 33 = .ok (.invokestatic 97, 3) := by decide +kernel
theorem dL_isRoute_36 : decode cL_isRoute 36 = .ok (.ifCond .ne 31, 3) := by decide +kernel
theorem dL_isRoute_39 : decode cL_isRoute 39 = .ok (.aload_n 0, 1) := by decide +kernel
theorem dL_isRoute_40 : decode cL_isRoute 40 = .ok (.iload_n 1, 1) := by decide +kernel
theorem dL_isRoute_41 : decode cL_isRoute 41 = .ok (.iload_n 2, 1) := by decide +kernel
theorem dL_isRoute_42 : decode cL_isRoute 42 = .ok (.invokestatic 109, 3) := by decide +kernel
theorem dL_isRoute_45 : decode cL_isRoute 45 = .ok (.sipush (-2000), 3) := by decide +kernel
theorem dL_isRoute_48 : decode cL_isRoute 48 = .ok (.if_icmp .ne 19, 3) := by decide +kernel
theorem dL_isRoute_51 : decode cL_isRoute 51 = .ok (.aload_n 0, 1) := by decide +kernel
theorem dL_isRoute_52 : decode cL_isRoute 52 = .ok (.iload_n 1, 1) := by decide +kernel
theorem dL_isRoute_53 : decode cL_isRoute 53 = .ok (.iload_n 2, 1) := by decide +kernel
theorem dL_isRoute_54 : decode cL_isRoute 54 = .ok (.invokestatic 111, 3) := by decide +kernel
theorem dL_isRoute_57 : decode cL_isRoute 57 = .ok (.sipush (-2000), 3) := by decide +kernel
theorem dL_isRoute_60 : decode cL_isRoute 60 = .ok (.if_icmp .ne 7, 3) := by decide +kernel
theorem dL_isRoute_63 : decode cL_isRoute 63 = .ok (.iconst 1, 1) := by decide +kernel
theorem dL_isRoute_64 : decode cL_isRoute 64 = .ok (.goto 4, 3) := by decide +kernel
theorem dL_isRoute_67 : decode cL_isRoute 67 = .ok (.iconst 0, 1) := by decide +kernel
theorem dL_isRoute_68 : decode cL_isRoute 68 = .ok (.ireturn, 1) := by decide +kernel
theorem dL_isRoute_69 : decode cL_isRoute 69 = .ok (.aload_n 0, 1) := by decide +kernel
theorem dL_isRoute_70 : decode cL_isRoute 70 = .ok (.iload_n 1, 1) := by decide +kernel
theorem dL_isRoute_71 : decode cL_isRoute 71 = .ok (.iload_n 2, 1) := by decide +kernel
theorem dL_isRoute_72 : decode cL_isRoute 72 = .ok (.invokestatic 109, 3) := by decide +kernel
theorem dL_isRoute_75 : decode cL_isRoute 75 = .ok (.istore 5, 2) := by decide +kernel
theorem dL_isRoute_77 : decode cL_isRoute 77 = .ok (.aload_n 0, 1) := by decide +kernel
theorem dL_isRoute_78 : decode cL_isRoute 78 = .ok (.iload_n 1, 1) := by decide +kernel
theorem dL_isRoute_79 : decode cL_isRoute 79 = .ok (.iload_n 2, 1) := by decide +kernel
theorem dL_isRoute_80 : decode cL_isRoute 80 = .ok (.invokestatic 111, 3) := by decide +kernel
theorem dL_isRoute_83 : decode cL_isRoute 83 = .ok (.istore 6, 2) := by decide +kernel
theorem dL_isRoute_85 : decode cL_isRoute 85 = .ok (.iload_n 3, 1) := by decide +kernel
theorem dL_isRoute_86 : decode cL_isRoute 86 = .ok (.aload_n 0, 1) := by decide +kernel
theorem dL_isRoute_87 : decode cL_isRoute 87 = .ok (.iload_n 2, 1) := by decide +kernel
theorem dL_isRoute_88 : decode cL_isRoute 88 = .ok (.iload_n 1, 1) := by decide +kernel
theorem dL_isRoute_89 : decode cL_isRoute 89 = .ok (.invokestatic 105, 3) := by decide +kernel
theorem dL_isRoute_92 : decode cL_isRoute 92 = .ok (.if_icmp .ne 60, 3) := by decide +kernel
theorem dL_isRoute_95 : decode cL_isRoute 95 = .ok (.iload_n 3, 1) := by decide +kernel
theorem dL_isRoute_96 : decode cL_isRoute 96 = .ok (.iload_n 1, 1) := by decide +kernel
theorem dL_isRoute_97 : decode cL_isRoute 97 = .ok (.iload_n 2, 1) := by decide +kernel
theorem dL_isRoute_98 : decode cL_isRoute 98 = .ok (.ixor, 1) := by decide +kernel
theorem dL_isRoute_99 : decode cL_isRoute 99 = .ok (.invokestatic 113, 3) := by decide +kernel
theorem dL_isRoute_102 : decode cL_isRoute 102 = .ok (.if_icmp .ne 50, 3) := by decide +kernel
theorem dL_isRoute_105 : decode cL_isRoute 105 = .ok (.iload 4, 2) := by decide +kernel
theorem dL_isRoute_107 : decode cL_isRoute 107 = .ok (.aload_n 0, 1) := by decide +kernel
theorem dL_isRoute_108 : decode cL_isRoute 108 = .ok (.iload_n 2, 1) := by decide +kernel
theorem dL_isRoute_109 : decode cL_isRoute 109 = .ok (.iload_n 1, 1) := by decide +kernel
theorem dL_isRoute_110 : decode cL_isRoute 110 = .ok (.invokestatic 107, 3) := by decide +kernel
theorem dL_isRoute_113 : decode cL_isRoute 113 = .ok (.if_icmp .ne 39, 3) := by decide +kernel
theorem dL_isRoute_116 : decode cL_isRoute 116 = .ok (.iload 4, 2) := by decide +kernel
theorem dL_isRoute_118 : decode cL_isRoute 118 = .ok (.iconst (-1), 1) := by decide +kernel
theorem dL_isRoute_119 : decode cL_isRoute 119 = .ok (.if_icmp .eq 18, 3) := by decide +kernel
theorem dL_isRoute_122 : decode cL_isRoute 122 = .ok (.iload 4, 2) := by decide +kernel
theorem dL_isRoute_124 : decode cL_isRoute 124 = .ok (.iload_n 3, 1) := by decide +kernel
theorem dL_isRoute_125 : decode cL_isRoute 125 = .ok (.if_icmp .lt 27, 3) := by decide +kernel
theorem dL_isRoute_128 : decode cL_isRoute 128 = .ok (.iload 4, 2) := by decide +kernel
theorem dL_isRoute_130 : decode cL_isRoute 130 = .ok (.iload_n 3, 1) := by decide +kernel
theorem dL_isRoute_131 : decode cL_isRoute 131 = .ok (.isub, 1) := by decide +kernel
theorem dL_isRoute_132 : decode cL_isRoute 132 = .ok (.iconst 2, 1) := by decide +kernel
theorem dL_isRoute_133 : decode cL_isRoute 133 = .ok (.irem, 1) := by decide +kernel
theorem dL_isRoute_134 : decode cL_isRoute 134 = .ok (.ifCond .ne 18, 3) := by decide +kernel
theorem dL_isRoute_137 : decode cL_isRoute 137 = .ok (.iload 5, 2) := by decide +kernel
theorem dL_isRoute_139 : decode cL_isRoute 139 = .ok (.ifCond .lt 13, 3) := by decide +kernel
theorem dL_isRoute_142 : decode cL_isRoute 142 = .ok (.iload 5, 2) := by decide +kernel
theorem dL_isRoute_144 : decode cL_isRoute 144 = .ok (.iconst 3, 1) := by decide +kernel
theorem dL_isRoute_145 : decode cL_isRoute 145 = .ok (.if_icmp .ge 7, 3) := by decide +kernel
theorem dL_isRoute_148 : decode cL_isRoute 148 = .ok (.iconst 1, 1) := by decide +kernel
theorem dL_isRoute_149 : decode cL_isRoute 149 = .ok (.goto 4, 3) := by decide +kernel
theorem dL_isRoute_152 : decode cL_isRoute 152 = .ok (.iconst 0, 1) := by decide +kernel
theorem dL_isRoute_153 : decode cL_isRoute 153 = .ok (.istore 7, 2) := by decide +kernel
theorem dL_isRoute_155 : decode cL_isRoute 155 = .ok (.iload 5, 2) := by decide +kernel
theorem dL_isRoute_157 : decode cL_isRoute 157 = .ok (.iconst 2, 1) := by decide +kernel
theorem dL_isRoute_158 : decode cL_isRoute 158 = .ok (.if_icmp .ne 31, 3) := by decide +kernel
theorem dL_isRoute_161 : decode cL_isRoute 161 = .ok (.iload 7, 2) := by decide +kernel
theorem dL_isRoute_163 : decode cL_isRoute 163 = .ok (.ifCond .eq 24, 3) := by decide +kernel
theorem dL_isRoute_166 : decode cL_isRoute 166 = .ok (.iload 6, 2) := by decide +kernel
theorem dL_isRoute_168 : decode cL_isRoute 168 = .ok (.iconst (-1), 1) := by decide +kernel
theorem dL_isRoute_169 : decode cL_isRoute 169 = .ok (.if_icmp .ne 18, 3) := by decide +kernel
theorem dL_isRoute_172 : decode cL_isRoute 172 = .ok (.aload_n 0, 1) := by decide +kernel
theorem dL_isRoute_173 : decode cL_isRoute 173 = .ok (.iload_n 1, 1) := by decide +kernel
theorem dL_isRoute_174 : decode cL_isRoute 174 = .ok (.iload_n 2, 1) := by decide +kernel
theorem dL_isRoute_175 : decode cL_isRoute 175 = .ok (.iconst 0, 1) := by decide +kernel
theorem dL_isRoute_176 : decode cL_isRoute 176 = .ok (.invokestatic 116, 3) := by decide +kernel
theorem dL_isRoute_179 : decode cL_isRoute 179 = .ok (.iconst (-1), 1) := by decide +kernel
theorem dL_isRoute_180 : decode cL_isRoute 180 = .ok (.if_icmp .ne 7, 3) := by decide +kernel
theorem dL_isRoute_183 : decode cL_isRoute 183 = .ok (.iconst 1, 1) := by decide +kernel
theorem dL_isRoute_184 : decode cL_isRoute 184 = .ok (.goto 4, 3) := by decide +kernel
theorem dL_isRoute_187 : decode cL_isRoute 187 = .ok (.iconst 0, 1) := by decide +kernel
theorem dL_isRoute_188 : decode cL_isRoute 188 = .ok (.ireturn, 1) := by decide +kernel
theorem dL_isRoute_189 : decode cL_isRoute 189 = .ok (.iload 7, 2) := by decide +kernel
theorem dL_isRoute_191 : decode cL_isRoute 191 = .ok (.ifCond .eq 67, 3) := by decide +kernel
theorem dL_isRoute_194 : decode cL_isRoute 194 = .ok (.iload 6, 2) := by decide +kernel
theorem dL_isRoute_196 : decode cL_isRoute 196 = .ok (.iload_n 3, 1) := by decide +kernel
theorem dL_isRoute_197 : decode cL_isRoute 197 = .ok (.iconst 2, 1) := by decide +kernel
theorem dL_isRoute_198 : decode cL_isRoute 198 = .ok (.iload 5, 2) := by decide +kernel
theorem dL_isRoute_200 : decode cL_isRoute 200 = .ok (.imul, 1) := by decide +kernel
theorem dL_isRoute_201 : decode cL_isRoute 201 = .ok (.iadd, 1) := by decide +kernel
theorem dL_isRoute_202 : decode cL_isRoute 202 = .ok (.if_icmp .ne 56, 3) := by decide +kernel
theorem dL_isRoute_205 : decode cL_isRoute 205 = .ok (.iload 4, 2) := by decide +kernel
theorem dL_isRoute_207 : decode cL_isRoute 207 = .ok (.ifCond .lt 51, 3) := by decide +kernel
theorem dL_isRoute_210 : decode cL_isRoute 210 = .ok (.iload 4, 2) := by decide +kernel
theorem dL_isRoute_212 : decode cL_isRoute 212 = .ok (.iload 6, 2) := by decide +kernel
theorem dL_isRoute_214 : decode cL_isRoute 214 = .ok (.if_icmp .gt 44, 3) := by decide +kernel
theorem dL_isRoute_217 : decode cL_isRoute 217 = .ok (.aload_n 0, 1) := by decide +kernel
theorem dL_isRoute_218 : decode cL_isRoute 218 = .ok (.iload_n 1, 1) := by decide +kernel
theorem dL_isRoute_219 : decode cL_isRoute 219 = .ok (.iload_n 2, 1) := by decide +kernel
theorem dL_isRoute_220 : decode cL_isRoute 220 = .ok (.iconst 0, 1) := by decide +kernel
theorem dL_isRoute_221 : decode cL_isRoute 221 = .ok (.invokestatic 116, 3) := by decide +kernel
theorem dL_isRoute_224 : decode cL_isRoute 224 = .ok (.iload_n 1, 1) := by decide +kernel
theorem dL_isRoute_225 : decode cL_isRoute 225 = .ok (.if_icmp .ne 33, 3) := by decide +kernel
theorem dL_isRoute_228 : decode cL_isRoute 228 = .ok (.aload_n 0, 1) := by decide +kernel
theorem dL_isRoute_229 : decode cL_isRoute 229 = .ok (.iload_n 1, 1) := by decide +kernel
theorem dL_isRoute_230 : decode cL_isRoute 230 = .ok (.iload_n 2, 1) := by decide +kernel
theorem dL_isRoute_231 : decode cL_isRoute 231 = .ok (.iload 6, 2) := by decide +kernel
theorem dL_isRoute_233 : decode cL_isRoute 233 = .ok (.invokestatic 116, 3) := by decide +kernel
theorem dL_isRoute_236 : decode cL_isRoute 236 = .ok (.iload_n 2, 1) := by decide +kernel
theorem dL_isRoute_237 : decode cL_isRoute 237 = .ok (.if_icmp .ne 21, 3) := by decide +kernel
theorem dL_isRoute_240 : decode cL_isRoute 240 = .ok (.aload_n 0, 1) := by decide +kernel
theorem dL_isRoute_241 : decode cL_isRoute 241 = .ok (.iload_n 1, 1) := by decide +kernel
theorem dL_isRoute_242 : decode cL_isRoute 242 = .ok (.iload_n 2, 1) := by decide +kernel
theorem dL_isRoute_243 : decode cL_isRoute 243 = .ok (.iload 6, 2) := by decide +kernel
theorem dL_isRoute_245 : decode cL_isRoute 245 = .ok (.iconst 1, 1) := by decide +kernel
theorem dL_isRoute_246 : decode cL_isRoute 246 = .ok (.iadd, 1) := by decide +kernel
theorem dL_isRoute_247 : decode cL_isRoute 247 = .ok (.invokestatic 116, 3) := by decide +kernel
theorem dL_isRoute_250 : decode cL_isRoute 250 = .ok (.iconst (-1), 1) := by decide +kernel
theorem dL_isRoute_251 : decode cL_isRoute 251 = .ok (.if_icmp .ne 7, 3) := by decide +kernel
theorem dL_isRoute_254 : decode cL_isRoute 254 = .ok (.iconst 1, 1) := by decide +kernel
theorem dL_isRoute_255 : decode cL_isRoute 255 = .ok (.goto 4, 3) := by decide +kernel
theorem dL_isRoute_258 : decode cL_isRoute 258 = .ok (.iconst 0, 1) := by decide +kernel
theorem dL_isRoute_259 : decode cL_isRoute 259 = .ok (.istore 7, 2) := by decide +kernel
theorem dL_isRoute_261 : decode cL_isRoute 261 = .ok (.iconst 1, 1) := by decide +kernel
theorem dL_isRoute_262 : decode cL_isRoute 262 = .ok (.istore 8, 2) := by decide +kernel
theorem dL_isRoute_264 : decode cL_isRoute 264 = .ok (.iload 8, 2) := by decide +kernel
theorem dL_isRoute_266 : decode cL_isRoute 266 = .ok (.iload 6, 2) := by decide +kernel
theorem dL_isRoute_268 : decode cL_isRoute 268 = .ok (.if_icmp .gt 66, 3) := by decide +kernel
theorem dL_isRoute_271 : decode cL_isRoute 271 = .ok (.iload 7, 2) := by decide +kernel
theorem dL_isRoute_273 : decode cL_isRoute 273 = .ok (.ifCond .eq 61, 3) := by decide +kernel
theorem dL_isRoute_276 : decode cL_isRoute 276 = .ok (.aload_n 0, 1) := by decide +kernel
theorem dL_isRoute_277 : decode cL_isRoute 277 = .ok (.iload_n 1, 1) := by decide +kernel
theorem dL_isRoute_278 : decode cL_isRoute 278 = .ok (.iload_n 2, 1) := by decide +kernel
theorem dL_isRoute_279 : decode cL_isRoute 279 = .ok (.iload 8, 2) := by decide +kernel
theorem dL_isRoute_281 : decode cL_isRoute 281 = .ok (.invokestatic 116, 3) := by decide +kernel
theorem dL_isRoute_284 : decode cL_isRoute 284 = .ok (.istore 9, 2) := by decide +kernel
theorem dL_isRoute_286 : decode cL_isRoute 286 = .ok (.iload 9, 2) := by decide +kernel
theorem dL_isRoute_288 : decode cL_isRoute 288 = .ok (.ifCond .lt 37, 3) := by decide +kernel
theorem dL_isRoute_291 : decode cL_isRoute 291 = .ok (.aload_n 0, 1) := by decide +kernel
theorem dL_isRoute_292 : decode cL_isRoute 292 = .ok (.iload 9, 2) := by decide +kernel
theorem dL_isRoute_294 : decode cL_isRoute 294 = .ok (.aload_n 0, 1) := by decide +kernel
theorem dL_isRoute_295 : decode cL_isRoute 295 = .ok (.iload_n 1, 1) := by decide +kernel
theorem dL_isRoute_296 : decode cL_isRoute 296 = .ok (.iload_n 2, 1) := by decide +kernel
theorem dL_isRoute_297 : decode cL_isRoute 297 = .ok (.iload 8, 2) := by decide +kernel
theorem dL_isRoute_299 : decode cL_isRoute 299 = .ok (.iconst 1, 1) := by decide +kernel
theorem dL_isRoute_300 : decode cL_isRoute 300 = .ok (.isub, 1) := by decide +kernel
theorem dL_isRoute_301 : decode cL_isRoute 301 = .ok (.invokestatic 116, 3) := by decide +kernel
theorem dL_isRoute_304 : decode cL_isRoute 304 = .ok (.invokestatic 105, 3) := by decide +kernel
theorem dL_isRoute_307 : decode cL_isRoute 307 = .ok (.iconst 1, 1) := by decide +kernel
theorem dL_isRoute_308 : decode cL_isRoute 308 = .ok (.if_icmp .ne 17, 3) := by decide +kernel
theorem dL_isRoute_311 : decode cL_isRoute 311 = .ok (.aload_n 0, 1) := by decide +kernel
theorem dL_isRoute_312 : decode cL_isRoute 312 = .ok (.iload 9, 2) := by decide +kernel
theorem dL_isRoute_314 : decode cL_isRoute 314 = .ok (.invokestatic 97, 3) := by decide +kernel
theorem dL_isRoute_317 : decode cL_isRoute 317 = .ok (.iconst 1, 1) := by decide +kernel
theorem dL_isRoute_318 : decode cL_isRoute 318 = .ok (.if_icmp .ne 7, 3) := by decide +kernel
theorem dL_isRoute_321 : decode cL_isRoute 321 = .ok (.iconst 1, 1) := by decide +kernel
theorem dL_isRoute_322 : decode cL_isRoute 322 = .ok (.goto 4, 3) := by decide +kernel
theorem dL_isRoute_325 : decode cL_isRoute 325 = .ok (.iconst 0, 1) := by decide +kernel
theorem dL_isRoute_326 : decode cL_isRoute 326 = .ok (.istore 7, 2) := by decide +kernel
theorem dL_isRoute_328 : decode cL_isRoute 328 = .ok (.iinc 8 1, 3) := by decide +kernel
theorem dL_isRoute_331 : decode cL_isRoute 331 = .ok (.goto (-67), 3) := by decide +kernel
theorem dL_isRoute_334 : decode cL_isRoute 334 = .ok (.iload 7, 2) := by decide +kernel
theorem dL_isRoute_336 : decode cL_isRoute 336 = .ok (.ireturn, 1) := by decide +kernel
set_option maxRecDepth 20000 in
theorem ggL_alive_L_isAlive : GoodIn wsL_alive wsL_isAlive := goodIn_ca (goodIn_r _ [4, 5, 6, 7, 8, 9, 10, 11, 12, 13, 14, 15, 16, 17, 18, 19, 20, 21, 22, 23, 24, 25, 26, 27, 28, 29, 30, 31, 32, 33, 34, 35, 36, 37, 38, 39] (by decide +kernel) (by decide +kernel)) (goodIn_sub (fun _ h => List.mem_cons_of_mem _ (List.mem_append_right _ h)) (by decide +kernel))
set_option maxRecDepth 20000 in
theorem gL_alive_L_isAlive : GoodIn wsL_alive (va_wsS RL 97 yL_isAlive wsL_isAlive) := goodIn_app (goodIn_of _ (by decide +kernel)) ggL_alive_L_isAlive
theorem dL_alive_0 : decode cL_alive 0 = .ok (.iconst 0, 1) := by decide +kernel
theorem dL_alive_1 : decode cL_alive 1 = .ok (.istore_n 2, 1) := by decide +kernel
theorem dL_alive_2 : decode cL_alive 2 = .ok (.iconst 0, 1) := by decide +kernel
theorem dL_alive_3 : decode cL_alive 3 = .ok (.istore_n 3, 1) := by decide +kernel
theorem dL_alive_4 : decode cL_alive 4 = .ok (.iload_n 3, 1) := by decide +kernel
theorem dL_alive_5 : decode cL_alive 5 = .ok (.iconst 1, 1) := by decide +kernel
theorem dL_alive_6 : decode cL_alive 6 = .ok (.iload_n 1, 1) := by decide +kernel
theorem dL_alive_7 : decode cL_alive 7 = .ok (.ishl, 1) := by decide +kernel
theorem dL_alive_8 : decode cL_alive 8 = .ok (.if_icmp .ge 26, 3) := by decide +kernel
theorem dL_alive_11 : decode cL_alive 11 = .ok (.iload_n 2, 1) := by decide +kernel
theorem dL_alive_12 : decode cL_alive 12 = .ok (.aload_n 0, 1) := by decide +kernel
theorem dL_alive_13 : decode cL_alive 13 = .ok (.iload_n 3, 1) := by decide +kernel
theorem dL_alive_14 : decode cL_alive 14 = .ok (.invokestatic 97, 3) := by decide +kernel
theorem dL_alive_17 : decode cL_alive 17 = .ok (.iconst 1, 1) := by decide +kernel
theorem dL_alive_18 : decode cL_alive 18 = .ok (.if_icmp .ne 7, 3) := by decide +kernel
theorem dL_alive_21 : decode cL_alive 21 = .ok (.iconst 1, 1) := by decide +kernel
theorem dL_alive_22 : decode cL_alive 22 = .ok (.goto 4, 3) := by decide +kernel
theorem dL_alive_25 : decode cL_alive 25 = .ok (.iconst 0, 1) := by decide +kernel
theorem dL_alive_26 : decode cL_alive 26 = .ok (.iadd, 1) := by decide +kernel
theorem dL_alive_27 : decode cL_alive 27 = .ok (.istore_n 2, 1) := by decide +kernel
theorem dL_alive_28 : decode cL_alive 28 = .ok (.iinc 3 1, 3) := by decide +kernel
theorem dL_alive_31 : decode cL_alive 31 = .ok (.goto (-27), 3) := by decide +kernel
theorem dL_alive_34 : decode cL_alive 34 = .ok (.iload_n 2, 1) := by decide +kernel
theorem dL_alive_35 : decode cL_alive 35 = .ok (.ireturn, 1) := by decide +kernel
set_option maxRecDepth 20000 in
theorem ggL_isBroadcast_L_broadcastTime : GoodIn wsL_isBroadcast wsL_broadcastTime := goodIn_ca (goodIn_ca (goodIn_r _ [4, 5, 6, 7, 8, 9, 10, 11, 12, 13, 14, 15, 16, 17, 18, 19, 20, 21, 22, 23, 24, 25, 26, 27, 28, 29, 30, 31, 32, 33, 34, 35, 36, 37, 38, 39, 40, 41, 42, 43, 44, 45, 46, 47, 48, 49, 50, 51, 52, 53, 54, 55, 56, 57, 58, 59, 60, 61, 62, 63, 64, 65, 66, 67, 68, 69, 70, 71, 72, 73, 74, 75, 76, 77, 78, 79, 80, 81, 82, 128, 129, 130, 131, 132, 133, 134, 135, 136, 137, 138, 139, 140, 141, 142, 143, 144, 145, 146, 147, 148, 149, 150, 151] (by decide +kernel) (by decide +kernel)) (goodIn_sub (fun _ h => List.mem_cons_of_mem _ (List.mem_append_left _ (List.mem_append_right _ h))) (by decide +kernel))) (goodIn_sub (fun _ h => List.mem_cons_of_mem _ (List.mem_append_right _ h)) (by decide +kernel))
set_option maxRecDepth 20000 in
theorem gL_isBroadcast_L_broadcastTime : GoodIn wsL_isBroadcast (va_wsS RL 119 yL_broadcastTime wsL_broadcastTime) := goodIn_app (goodIn_of _ (by decide +kernel)) ggL_isBroadcast_L_broadcastTime
set_option maxRecDepth 20000 in
theorem ggL_isBroadcast_L_ones : GoodIn wsL_isBroadcast wsL_ones := goodIn_r _ [85] (by decide +kernel) (by decide +kernel)
set_option maxRecDepth 20000 in
theorem gL_isBroadcast_L_ones : GoodIn wsL_isBroadcast (va_wsS RL 113 yL_ones wsL_ones) := goodIn_app (goodIn_of _ (by decide +kernel)) ggL_isBroadcast_L_ones
set_option maxRecDepth 20000 in
theorem ggL_isBroadcast_L_isAlive : GoodIn wsL_isBroadcast wsL_isAlive := goodIn_ca (goodIn_r _ [88, 5, 89, 90, 91, 10, 92, 13, 15, 16, 17, 18, 19, 20, 21, 22, 23, 24, 31, 32, 33, 128, 129, 130, 131, 132, 133, 134, 135, 136, 137, 138, 139, 140, 141, 142] (by decide +kernel) (by decide +kernel)) (goodIn_sub (fun _ h => List.mem_cons_of_mem _ (List.mem_append_left _ (List.mem_append_right _ h))) (by decide +kernel))
set_option maxRecDepth 20000 in
theorem gL_isBroadcast_L_isAlive : GoodIn wsL_isBroadcast (va_wsS RL 97 yL_isAlive wsL_isAlive) := goodIn_app (goodIn_of _ (by decide +kernel)) ggL_isBroadcast_L_isAlive
set_option maxRecDepth 20000 in
theorem ggL_isBroadcast_L_broadcastSize : GoodIn wsL_isBroadcast wsL_broadcastSize := goodIn_ca (goodIn_ca (goodIn_r _ [95, 5, 6, 96, 97, 98, 10, 99, 12, 13, 14, 15, 16, 17, 18, 19, 20, 21, 22, 23, 24, 25, 26, 27, 28, 29, 30, 31, 32, 33, 34, 35, 36, 37, 38, 39, 40, 41, 42, 43, 44, 45, 46, 47, 48, 49, 50, 51, 52, 53, 54, 55, 56, 57, 58, 59, 60, 61, 62, 63, 64, 65, 66, 67, 68, 69, 70, 71, 72, 73, 74, 75, 76, 77, 78, 79, 80, 81, 128, 129, 130, 131, 132, 133, 134, 135, 136, 137, 138, 139, 140, 141, 142, 143, 144, 145, 146, 147, 148, 149, 150, 151] (by decide +kernel) (by decide +kernel)) (goodIn_sub (fun _ h => List.mem_cons_of_mem _ (List.mem_append_left _ (List.mem_append_right _ h))) (by decide +kernel))) (goodIn_sub (fun _ h => List.mem_cons_of_mem _ (List.mem_append_right _ h)) (by decide +kernel))
set_option maxRecDepth 20000 in
theorem gL_isBroadcast_L_broadcastSize : GoodIn wsL_isBroadcast (va_wsS RL 121 yL_broadcastSize wsL_broadcastSize) := goodIn_app (goodIn_of _ (by decide +kernel)) ggL_isBroadcast_L_broadcastSize
set_option maxRecDepth 20000 in
theorem ggL_isBroadcast_L_reach : GoodIn wsL_isBroadcast wsL_reach := goodIn_ca (goodIn_ca (goodIn_r _ [102, 5, 6, 103, 104, 105, 10, 106, 19, 20, 13, 15, 16, 17, 18, 21, 22, 23, 24, 25, 26, 27, 28, 29, 30, 31, 32, 33, 107, 108, 109, 110, 14, 111, 112, 113, 114, 115, 116, 117, 118, 74, 75, 49, 76, 77, 59, 60, 119, 120, 121, 122, 123, 66, 67, 68, 51, 69, 70, 71, 72, 73, 124, 47, 48, 50, 128, 129, 130, 131, 132, 133, 134, 135, 136, 137, 138, 139, 140, 141, 142, 147, 148, 149, 150, 151] (by decide +kernel) (by decide +kernel)) (goodIn_sub (fun _ h => List.mem_cons_of_mem _ (List.mem_append_left _ (List.mem_append_right _ h))) (by decide +kernel))) (goodIn_sub (fun _ h => List.mem_cons_of_mem _ (List.mem_append_right _ h)) (by decide +kernel))
set_option maxRecDepth 20000 in
theorem gL_isBroadcast_L_reach : GoodIn wsL_isBroadcast (va_wsS RL 123 yL_reach wsL_reach) := goodIn_app (goodIn_of _ (by decide +kernel)) ggL_isBroadcast_L_reach
set_option maxRecDepth 20000 in
theorem ggL_isBroadcast_L_alive : GoodIn wsL_isBroadcast wsL_alive := goodIn_ca (goodIn_r _ [127, 86, 87, 3, 88, 5, 89, 90, 91, 10, 92, 13, 15, 16, 17, 18, 19, 20, 21, 22, 23, 24, 31, 32, 33, 128, 129, 130, 131, 132, 133, 134, 135, 136, 137, 138, 139, 140, 141, 142] (by decide +kernel) (by decide +kernel)) (goodIn_sub (fun _ h => List.mem_cons_of_mem _ (List.mem_append_left _ (List.mem_append_right _ h))) (by decide +kernel))
set_option maxRecDepth 20000 in
theorem gL_isBroadcast_L_alive : GoodIn wsL_isBroadcast (va_wsS RL 125 yL_alive wsL_alive) := goodIn_app (goodIn_of _ (by decide +kernel)) ggL_isBroadcast_L_alive
theorem dL_isBroadcast_0 : decode cL_isBroadcast 0 = .ok (.iconst 0, 1) := by decide +kernel
theorem dL_isBroadcast_1 : decode cL_isBroadcast 1 = .ok (.istore_n 3, 1) := by decide +kernel
theorem dL_isBroadcast_2 : decode cL_isBroadcast 2 = .ok (.iconst 1, 1) := by decide +kernel
theorem dL_isBroadcast_3 : decode cL_isBroadcast 3 = .ok (.istore 4, 2) := by decide +kernel
theorem dL_isBroadcast_5 : decode cL_isBroadcast 5 = .ok (.iconst 0, 1) := by decide +kernel
theorem dL_isBroadcast_6 : decode cL_isBroadcast 6 = .ok (.istore 5, 2) := by decide +kernel
theorem dL_isBroadcast_8 : decode cL_isBroadcast 8 = .ok (.iload 5, 2) := by decide +kernel
theorem dL_isBroadcast_10 : decode cL_isBroadcast 10 = .ok (.iconst 1, 1) := by decide +kernel
theorem dL_isBroadcast_11 : decode cL_isBroadcast 11 = .ok (.iload_n 1, 1) := by decide +kernel
theorem dL_isBroadcast_12 : decode cL_isBroadcast 12 = .ok (.ishl, 1) := by decide +kernel
theorem dL_isBroadcast_13 : decode cL_isBroadcast 13 = .ok (.if_icmp .ge 71, 3) := by decide +kernel
theorem dL_isBroadcast_16 : decode cL_isBroadcast 16 = .ok (.iload 4, 2) := by decide +kernel
theorem dL_isBroadcast_18 : decode cL_isBroadcast 18 = .ok (.ifCond .eq 66, 3) := by decide +kernel
theorem dL_isBroadcast_21 : decode cL_isBroadcast 21 = .ok (.aload_n 0, 1) := by decide +kernel
theorem dL_isBroadcast_22 : decode cL_isBroadcast 22 = .ok (.iload_n 2, 1) := by decide +kernel
theorem dL_isBroadcast_23 : decode cL_isBroadcast 23 = .ok (.iload 5, 2) := by decide +kernel
theorem dL_isBroadcast_25 : decode cL_isBroadcast 25 = .ok (.invokestatic 119, 3) := by decide +kernel
theorem dL_isBroadcast_28 : decode cL_isBroadcast 28 = .ok (.istore 6, 2) := by decide +kernel
theorem dL_isBroadcast_30 : decode cL_isBroadcast 30 = .ok (.iload 6, 2) := by decide +kernel
theorem dL_isBroadcast_32 : decode cL_isBroadcast 32 = .ok (.iconst (-1), 1) := by decide +kernel
theorem dL_isBroadcast_33 : decode cL_isBroadcast 33 = .ok (.if_icmp .eq 25, 3) := by decide +kernel
theorem dL_isBroadcast_36 : decode cL_isBroadcast 36 = .ok (.iload 6, 2) := by decide +kernel
theorem dL_isBroadcast_38 : decode cL_isBroadcast 38 = .ok (.iload_n 2, 1) := by decide +kernel
theorem dL_isBroadcast_39 : decode cL_isBroadcast 39 = .ok (.iload 5, 2) := by decide +kernel
theorem dL_isBroadcast_41 : decode cL_isBroadcast 41 = .ok (.ixor, 1) := by decide +kernel
theorem dL_isBroadcast_42 : decode cL_isBroadcast 42 = .ok (.invokestatic 113, 3) := by decide +kernel
theorem dL_isBroadcast_45 : decode cL_isBroadcast 45 = .ok (.if_icmp .ne 17, 3) := by decide +kernel
theorem dL_isBroadcast_48 : decode cL_isBroadcast 48 = .ok (.aload_n 0, 1) := by decide +kernel
theorem dL_isBroadcast_49 : decode cL_isBroadcast 49 = .ok (.iload 5, 2) := by decide +kernel
theorem dL_isBroadcast_51 : decode cL_isBroadcast 51 = .ok (.invokestatic 97, 3) := by decide +kernel
theorem dL_isBroadcast_54 : decode cL_isBroadcast 54 = .ok (.iconst 1, 1) := by decide +kernel
theorem dL_isBroadcast_55 : decode cL_isBroadcast 55 = .ok (.if_icmp .ne 7, 3) := by decide +kernel
theorem dL_isBroadcast_58 : decode cL_isBroadcast 58 = .ok (.iconst 1, 1) := by decide +kernel
theorem dL_isBroadcast_59 : decode cL_isBroadcast 59 = .ok (.goto 4, 3) := by decide +kernel
theorem dL_isBroadcast_62 : decode cL_isBroadcast 62 = .ok (.iconst 0, 1) := by decide +kernel
theorem dL_isBroadcast_63 : decode cL_isBroadcast 63 = .ok (.istore 4, 2) := by decide +kernel
theorem dL_isBroadcast_65 : decode cL_isBroadcast 65 = .ok (.iload_n 3, 1) := by decide +kernel
theorem dL_isBroadcast_66 : decode cL_isBroadcast 66 = .ok (.iload 6, 2) := by decide +kernel
theorem dL_isBroadcast_68 : decode cL_isBroadcast 68 = .ok (.ifCond .lt 7, 3) := by decide +kernel
theorem dL_isBroadcast_71 : decode cL_isBroadcast 71 = .ok (.iconst 1, 1) := by decide +kernel
theorem dL_isBroadcast_72 : decode cL_isBroadcast 72 = .ok (.goto 4, 3) := by decide +kernel
theorem dL_isBroadcast_75 : decode cL_isBroadcast 75 = .ok (.iconst 0, 1) := by decide +kernel
theorem dL_isBroadcast_76 : decode cL_isBroadcast 76 = .ok (.iadd, 1) := by decide +kernel
theorem dL_isBroadcast_77 : decode cL_isBroadcast 77 = .ok (.istore_n 3, 1) := by decide +kernel
theorem dL_isBroadcast_78 : decode cL_isBroadcast 78 = .ok (.iinc 5 1, 3) := by decide +kernel
theorem dL_isBroadcast_81 : decode cL_isBroadcast 81 = .ok (.goto (-73), 3) := by decide +kernel
theorem dL_isBroadcast_84 : decode cL_isBroadcast 84 = .ok (.iload 4, 2) := by decide +kernel
theorem dL_isBroadcast_86 : decode cL_isBroadcast 86 = .ok (.ifCond .eq 55, 3) := by decide +kernel
theorem dL_isBroadcast_89 : decode cL_isBroadcast 89 = .ok (.aload_n 0, 1) := by decide +kernel
theorem dL_isBroadcast_90 : decode cL_isBroadcast 90 = .ok (.iload_n 2, 1) := by decide +kernel
theorem dL_isBroadcast_91 : decode cL_isBroadcast 91 = .ok (.invokestatic 121, 3) := by decide +kernel
theorem dL_isBroadcast_94 : decode cL_isBroadcast 94 = .ok (.iload_n 3, 1) := by decide +kernel
theorem dL_isBroadcast_95 : decode cL_isBroadcast 95 = .ok (.if_icmp .ne 46, 3) := by decide +kernel
theorem dL_isBroadcast_98 : decode cL_isBroadcast 98 = .ok (.aload_n 0, 1) := by decide +kernel
theorem dL_isBroadcast_99 : decode cL_isBroadcast 99 = .ok (.iload_n 2, 1) := by decide +kernel
theorem dL_isBroadcast_100 : decode cL_isBroadcast 100 = .ok (.iload_n 2, 1) := by decide +kernel
theorem dL_isBroadcast_101 : decode cL_isBroadcast 101 = .ok (.invokestatic 119, 3) := by decide +kernel
theorem dL_isBroadcast_104 : decode cL_isBroadcast 104 = .ok (.ifCond .ne 37, 3) := by decide +kernel
theorem dL_isBroadcast_107 : decode cL_isBroadcast 107 = .ok (.aload_n 0, 1) := by decide +kernel
theorem dL_isBroadcast_108 : decode cL_isBroadcast 108 = .ok (.iload_n 2, 1) := by decide +kernel
theorem dL_isBroadcast_109 : decode cL_isBroadcast 109 = .ok (.iconst 0, 1) := by decide +kernel
theorem dL_isBroadcast_110 : decode cL_isBroadcast 110 = .ok (.invokestatic 123, 3) := by decide +kernel
theorem dL_isBroadcast_113 : decode cL_isBroadcast 113 = .ok (.aload_n 0, 1) := by decide +kernel
theorem dL_isBroadcast_114 : decode cL_isBroadcast 114 = .ok (.iload_n 2, 1) := by decide +kernel
theorem dL_isBroadcast_115 : decode cL_isBroadcast 115 = .ok (.iconst 1, 1) := by decide +kernel
theorem dL_isBroadcast_116 : decode cL_isBroadcast 116 = .ok (.invokestatic 123, 3) := by decide +kernel
theorem dL_isBroadcast_119 : decode cL_isBroadcast 119 = .ok (.iadd, 1) := by decide +kernel
theorem dL_isBroadcast_120 : decode cL_isBroadcast 120 = .ok (.aload_n 0, 1) := by decide +kernel
theorem dL_isBroadcast_121 : decode cL_isBroadcast 121 = .ok (.iload_n 2, 1) := by decide +kernel
theorem dL_isBroadcast_122 : decode cL_isBroadcast 122 = .ok (.iconst 2, 1) := by decide +kernel
theorem dL_isBroadcast_123 : decode cL_isBroadcast 123 = .ok (.invokestatic 123, 3) := by decide +kernel
theorem dL_isBroadcast_126 : decode cL_isBroadcast 126 = .ok (.iadd, 1) := by decide +kernel
theorem dL_isBroadcast_127 : decode cL_isBroadcast 127 = .ok (.aload_n 0, 1) := by decide +kernel
theorem dL_isBroadcast_128 : decode cL_isBroadcast 128 = .ok (.iload_n 1, 1) := by decide +kernel
theorem dL_isBroadcast_129 : decode cL_isBroadcast 129 = .ok (.invokestatic 125, 3) := by decide +kernel
theorem dL_isBroadcast_132 : decode cL_isBroadcast 132 = .ok (.iconst 1, 1) := by decide +kernel
theorem dL_isBroadcast_133 : decode cL_isBroadcast 133 = .ok (.isub, 1) := by decide +kernel
theorem dL_isBroadcast_134 : decode cL_isBroadcast 134 = .ok (.if_icmp .ne 7, 3) := by decide +kernel
theorem dL_isBroadcast_137 : decode cL_isBroadcast 137 = .ok (.iconst 1, 1) := by decide +kernel
theorem dL_isBroadcast_138 : decode cL_isBroadcast 138 = .ok (.goto 4, 3) := by decide +kernel
theorem dL_isBroadcast_141 : decode cL_isBroadcast 141 = .ok (.iconst 0, 1) := by decide +kernel
theorem dL_isBroadcast_142 : decode cL_isBroadcast 142 = .ok (.ireturn, 1) := by decide +kernel
set_option maxRecDepth 20000 in
theorem ggL_arePaths_L_disjointPaths : GoodIn wsL_arePaths wsL_disjointPaths := goodIn_ca (goodIn_ca (goodIn_r _ [4, 5, 6, 7, 8, 9, 10, 11, 12, 13, 14, 15, 16, 17, 18, 19, 20, 21, 22, 23, 24, 25, 26, 27, 28, 29, 30, 31, 32, 33, 34, 35, 36, 37, 38, 39, 40, 41, 42, 43, 44, 45, 46, 47, 48, 49, 50, 51, 52, 53, 54, 55, 56, 57, 58, 59, 60, 61, 62, 63, 64, 65, 66, 67, 68, 69, 70, 71, 72, 73, 74, 75, 76, 77, 78, 79, 80, 81, 82, 83, 112, 113, 114, 115, 116, 117, 118, 119, 120, 121, 122, 123, 124, 125, 126, 127, 128, 129, 130, 131, 132, 133, 134] (by decide +kernel) (by decide +kernel)) (goodIn_sub (fun _ h => List.mem_cons_of_mem _ (List.mem_append_left _ (List.mem_append_right _ h))) (by decide +kernel))) (goodIn_sub (fun _ h => List.mem_cons_of_mem _ (List.mem_append_right _ h)) (by decide +kernel))
set_option maxRecDepth 20000 in
theorem gL_arePaths_L_disjointPaths : GoodIn wsL_arePaths (va_wsS RL 128 yL_disjointPaths wsL_disjointPaths) := goodIn_app (goodIn_of _ (by decide +kernel)) ggL_arePaths_L_disjointPaths
set_option maxRecDepth 20000 in
theorem ggL_arePaths_L_isAlive : GoodIn wsL_arePaths wsL_isAlive := goodIn_ca (goodIn_r _ [86, 5, 87, 88, 89, 10, 90, 15, 16, 17, 18, 19, 12, 13, 20, 21, 22, 23, 30, 31, 32, 112, 113, 114, 115, 116, 117, 118, 119, 120, 121, 122, 123, 124, 125, 126] (by decide +kernel) (by decide +kernel)) (goodIn_sub (fun _ h => List.mem_cons_of_mem _ (List.mem_append_left _ (List.mem_append_right _ h))) (by decide +kernel))
set_option maxRecDepth 20000 in
theorem gL_arePaths_L_isAlive : GoodIn wsL_arePaths (va_wsS RL 97 yL_isAlive wsL_isAlive) := goodIn_app (goodIn_of _ (by decide +kernel)) ggL_arePaths_L_isAlive
set_option maxRecDepth 20000 in
theorem ggL_arePaths_L_shortest : GoodIn wsL_arePaths wsL_shortest := goodIn_ca (goodIn_ca (goodIn_r _ [93, 5, 6, 94, 95, 96, 10, 97, 15, 98, 99, 100, 101, 16, 17, 18, 19, 12, 13, 20, 21, 22, 23, 24, 25, 26, 27, 28, 29, 30, 31, 32, 102, 103, 104, 105, 106, 107, 108, 112, 113, 114, 115, 116, 117, 118, 119, 120, 121, 122, 123, 124, 125, 126] (by decide +kernel) (by decide +kernel)) (goodIn_sub (fun _ h => List.mem_cons_of_mem _ (List.mem_append_left _ (List.mem_append_right _ h))) (by decide +kernel))) (goodIn_sub (fun _ h => List.mem_cons_of_mem _ (List.mem_append_right _ h)) (by decide +kernel))
set_option maxRecDepth 20000 in
theorem gL_arePaths_L_shortest : GoodIn wsL_arePaths (va_wsS RL 107 yL_shortest wsL_shortest) := goodIn_app (goodIn_of _ (by decide +kernel)) ggL_arePaths_L_shortest
set_option maxRecDepth 20000 in
theorem ggL_arePaths_L_alive : GoodIn wsL_arePaths wsL_alive := goodIn_ca (goodIn_r _ [111, 84, 85, 3, 86, 5, 87, 88, 89, 10, 90, 15, 16, 17, 18, 19, 12, 13, 20, 21, 22, 23, 30, 31, 32, 112, 113, 114, 115, 116, 117, 118, 119, 120, 121, 122, 123, 124, 125, 126] (by decide +kernel) (by decide +kernel)) (goodIn_sub (fun _ h => List.mem_cons_of_mem _ (List.mem_append_left _ (List.mem_append_right _ h))) (by decide +kernel))
set_option maxRecDepth 20000 in
theorem gL_arePaths_L_alive : GoodIn wsL_arePaths (va_wsS RL 125 yL_alive wsL_alive) := goodIn_app (goodIn_of _ (by decide +kernel)) ggL_arePaths_L_alive
theorem dL_arePaths_0 : decode cL_arePaths 0 = .ok (.aload_n 0, 1) := by decide +kernel
theorem dL_arePaths_1 : decode cL_arePaths 1 = .ok (.iload_n 2, 1) := by decide +kernel
theorem dL_arePaths_2 : decode cL_arePaths 2 = .ok (.iload_n 3, 1) := by decide +kernel
theorem dL_arePaths_3 : decode cL_arePaths 3 = .ok (.invokestatic 128, 3) := by decide +kernel
theorem dL_arePaths_6 : decode cL_arePaths 6 = .ok (.istore 4, 2) := by decide +kernel
theorem dL_arePaths_8 : decode cL_arePaths 8 = .ok (.iconst 0, 1) := by decide +kernel
theorem dL_arePaths_9 : decode cL_arePaths 9 = .ok (.istore 5, 2) := by decide +kernel
theorem dL_arePaths_11 : decode cL_arePaths 11 = .ok (.iconst 0, 1) := by decide +kernel
theorem dL_arePaths_12 : decode cL_arePaths 12 = .ok (.istore 6, 2) := by decide +kernel
theorem dL_arePaths_14 : decode cL_arePaths 14 = .ok (.iconst 0, 1) := by decide +kernel
theorem dL_arePaths_15 : decode cL_arePaths 15 = .ok (.istore 7, 2) := by decide +kernel
theorem dL_arePaths_17 : decode cL_arePaths 17 = .ok (.iload 7, 2) := by decide +kernel
theorem dL_arePaths_19 : decode cL_arePaths 19 = .ok (.iload_n 1, 1) := by decide +kernel
theorem dL_arePaths_20 : decode cL_arePaths 20 = .ok (.if_icmp .ge 39, 3) := by decide +kernel
theorem dL_arePaths_23 : decode cL_arePaths 23 = .ok (.iload 5, 2) := by decide +kernel
theorem dL_arePaths_25 : decode cL_arePaths 25 = .ok (.aload_n 0, 1) := by decide +kernel
theorem dL_arePaths_26 : decode cL_arePaths 26 = .ok (.iload_n 2, 1) := by decide +kernel
theorem dL_arePaths_27 : decode cL_arePaths 27 = .ok (.iconst 1, 1) := by decide +kernel
theorem dL_arePaths_28 : decode cL_arePaths 28 = .ok (.iload 7, 2) := by decide +kernel
theorem dL_arePaths_30 : decode cL_arePaths 30 = .ok (.ishl, 1) := by decide +kernel
theorem dL_arePaths_31 : decode cL_arePaths 31 = .ok (.ixor, 1) := by decide +kernel
theorem dL_arePaths_32 : decode cL_arePaths 32 = .ok (.invokestatic 97, 3) := by decide +kernel
theorem dL_arePaths_35 : decode cL_arePaths 35 = .ok (.iadd, 1) := by decide +kernel
theorem dL_arePaths_36 : decode cL_arePaths 36 = .ok (.istore 5, 2) := by decide +kernel
theorem dL_arePaths_38 : decode cL_arePaths 38 = .ok (.iload 6, 2) := by decide +kernel
theorem dL_arePaths_40 : decode cL_arePaths 40 = .ok (.aload_n 0, 1) := by decide +kernel
theorem dL_arePaths_41 : decode cL_arePaths 41 = .ok (.iload_n 3, 1) := by decide +kernel
theorem dL_arePaths_42 : decode cL_arePaths 42 = .ok (.iconst 1, 1) := by decide +kernel
theorem dL_arePaths_43 : decode cL_arePaths 43 = .ok (.iload 7, 2) := by decide +kernel
theorem dL_arePaths_45 : decode cL_arePaths 45 = .ok (.ishl, 1) := by decide +kernel
theorem dL_arePaths_46 : decode cL_arePaths 46 = .ok (.ixor, 1) := by decide +kernel
theorem dL_arePaths_47 : decode cL_arePaths 47 = .ok (.invokestatic 97, 3) := by decide +kernel
theorem dL_arePaths_50 : decode cL_arePaths 50 = .ok (.iadd, 1) := by decide +kernel
theorem dL_arePaths_51 : decode cL_arePaths 51 = .ok (.istore 6, 2) := by decide +kernel
theorem dL_arePaths_53 : decode cL_arePaths 53 = .ok (.iinc 7 1, 3) := by decide +kernel
theorem dL_arePaths_56 : decode cL_arePaths 56 = .ok (.goto (-39), 3) := by decide +kernel
theorem dL_arePaths_59 : decode cL_arePaths 59 = .ok (.iload 4, 2) := by decide +kernel
theorem dL_arePaths_61 : decode cL_arePaths 61 = .ok (.aload_n 0, 1) := by decide +kernel
theorem dL_arePaths_62 : decode cL_arePaths 62 = .ok (.iload_n 3, 1) := by decide +kernel
theorem dL_arePaths_63 : decode cL_arePaths 63 = .ok (.iload_n 2, 1) := by decide +kernel
theorem dL_arePaths_64 : decode cL_arePaths 64 = .ok (.invokestatic 128, 3) := by decide +kernel
theorem dL_arePaths_67 : decode cL_arePaths 67 = .ok (.if_icmp .ne 71, 3) := by decide +kernel
theorem dL_arePaths_70 : decode cL_arePaths 70 = .ok (.iload 4, 2) := by decide +kernel
theorem dL_arePaths_72 : decode cL_arePaths 72 = .ok (.ifCond .lt 66, 3) := by decide +kernel
theorem dL_arePaths_75 : decode cL_arePaths 75 = .ok (.iload 4, 2) := by decide +kernel
theorem dL_arePaths_77 : decode cL_arePaths 77 = .ok (.iload 5, 2) := by decide +kernel
theorem dL_arePaths_79 : decode cL_arePaths 79 = .ok (.if_icmp .gt 59, 3) := by decide +kernel
theorem dL_arePaths_82 : decode cL_arePaths 82 = .ok (.iload 4, 2) := by decide +kernel
theorem dL_arePaths_84 : decode cL_arePaths 84 = .ok (.iload 6, 2) := by decide +kernel
theorem dL_arePaths_86 : decode cL_arePaths 86 = .ok (.if_icmp .gt 52, 3) := by decide +kernel
theorem dL_arePaths_89 : decode cL_arePaths 89 = .ok (.iload 4, 2) := by decide +kernel
theorem dL_arePaths_91 : decode cL_arePaths 91 = .ok (.ifCond .ne 7, 3) := by decide +kernel
theorem dL_arePaths_94 : decode cL_arePaths 94 = .ok (.iconst 1, 1) := by decide +kernel
theorem dL_arePaths_95 : decode cL_arePaths 95 = .ok (.goto 4, 3) := by decide +kernel
theorem dL_arePaths_98 : decode cL_arePaths 98 = .ok (.iconst 0, 1) := by decide +kernel
theorem dL_arePaths_99 : decode cL_arePaths 99 = .ok (.aload_n 0, 1) := by decide +kernel
theorem dL_arePaths_100 : decode cL_arePaths 100 = .ok (.iload_n 2, 1) := by decide +kernel
theorem dL_arePaths_101 : decode cL_arePaths 101 = .ok (.iload_n 3, 1) := by decide +kernel
theorem dL_arePaths_102 : decode cL_arePaths 102 = .ok (.invokestatic 107, 3) := by decide +kernel
theorem dL_arePaths_105 : decode cL_arePaths 105 = .ok (.iconst (-1), 1) := by decide +kernel
theorem dL_arePaths_106 : decode cL_arePaths 106 = .ok (.if_icmp .ne 7, 3) := by decide +kernel
theorem dL_arePaths_109 : decode cL_arePaths 109 = .ok (.iconst 1, 1) := by decide +kernel
theorem dL_arePaths_110 : decode cL_arePaths 110 = .ok (.goto 4, 3) := by decide +kernel
theorem dL_arePaths_113 : decode cL_arePaths 113 = .ok (.iconst 0, 1) := by decide +kernel
theorem dL_arePaths_114 : decode cL_arePaths 114 = .ok (.if_icmp .ne 24, 3) := by decide +kernel
theorem dL_arePaths_117 : decode cL_arePaths 117 = .ok (.aload_n 0, 1) := by decide +kernel
theorem dL_arePaths_118 : decode cL_arePaths 118 = .ok (.iload_n 1, 1) := by decide +kernel
theorem dL_arePaths_119 : decode cL_arePaths 119 = .ok (.invokestatic 125, 3) := by decide +kernel
theorem dL_arePaths_122 : decode cL_arePaths 122 = .ok (.iconst 1, 1) := by decide +kernel
theorem dL_arePaths_123 : decode cL_arePaths 123 = .ok (.iload_n 1, 1) := by decide +kernel
theorem dL_arePaths_124 : decode cL_arePaths 124 = .ok (.ishl, 1) := by decide +kernel
theorem dL_arePaths_125 : decode cL_arePaths 125 = .ok (.if_icmp .lt 9, 3) := by decide +kernel
theorem dL_arePaths_128 : decode cL_arePaths 128 = .ok (.iload 4, 2) := by decide +kernel
theorem dL_arePaths_130 : decode cL_arePaths 130 = .ok (.iload_n 1, 1) := by decide +kernel
theorem dL_arePaths_131 : decode cL_arePaths 131 = .ok (.if_icmp .ne 7, 3) := by decide +kernel
theorem dL_arePaths_134 : decode cL_arePaths 134 = .ok (.iconst 1, 1) := by decide +kernel
theorem dL_arePaths_135 : decode cL_arePaths 135 = .ok (.goto 4, 3) := by decide +kernel
theorem dL_arePaths_138 : decode cL_arePaths 138 = .ok (.iconst 0, 1) := by decide +kernel
theorem dL_arePaths_139 : decode cL_arePaths 139 = .ok (.ireturn, 1) := by decide +kernel
set_option maxRecDepth 20000 in
theorem ggL_areSubcubes_L_alive : GoodIn wsL_areSubcubes wsL_alive := goodIn_ca (goodIn_r _ [4, 5, 6, 3, 7, 8, 9, 10, 11, 12, 13, 14, 15, 16, 17, 18, 19, 20, 21, 22, 23, 24, 25, 26, 27, 70, 71, 72, 73, 74, 75, 76, 77, 78, 79, 80, 81, 82, 83, 84] (by decide +kernel) (by decide +kernel)) (goodIn_sub (fun _ h => List.mem_cons_of_mem _ (List.mem_append_right _ h)) (by decide +kernel))
set_option maxRecDepth 20000 in
theorem gL_areSubcubes_L_alive : GoodIn wsL_areSubcubes (va_wsS RL 125 yL_alive wsL_alive) := goodIn_app (goodIn_of _ (by decide +kernel)) ggL_areSubcubes_L_alive
set_option maxRecDepth 20000 in
theorem ggL_areSubcubes_X6_largestSubcube : GoodIn wsL_areSubcubes wsX6_largestSubcube := goodIn_r _ [31, 21, 22, 23, 12, 24, 14, 32, 33, 34, 35, 36, 37, 38, 39, 40, 41, 42, 43, 44, 45, 46, 47, 48, 49, 50, 51, 52, 53, 54, 55, 56, 57, 58, 59, 70, 71, 72, 73, 74, 75, 76, 77, 78, 79, 80, 81, 82, 83, 84] (by decide +kernel) (by decide +kernel)
set_option maxRecDepth 20000 in
theorem gL_areSubcubes_X6_largestSubcube : GoodIn wsL_areSubcubes (wsV RL 130 RX6 yX6_largestSubcube wsX6_largestSubcube) := goodIn_app (goodIn_of _ (by decide +kernel)) ggL_areSubcubes_X6_largestSubcube
set_option maxRecDepth 20000 in
theorem ggL_areSubcubes_L_freeSubcubes : GoodIn wsL_areSubcubes wsL_freeSubcubes := goodIn_ca (goodIn_r _ [62, 8, 63, 64, 65, 12, 66, 19, 20, 14, 21, 22, 23, 24, 43, 44, 45, 46, 47, 48, 49, 32, 33, 34, 35, 36, 37, 38, 39, 40, 41, 42, 53, 54, 55, 56, 57, 58, 59, 70, 71, 72, 73, 74, 75, 76, 77, 78, 79, 80, 81, 82, 83, 84] (by decide +kernel) (by decide +kernel)) (goodIn_sub (fun _ h => List.mem_cons_of_mem _ (List.mem_append_right _ h)) (by decide +kernel))
set_option maxRecDepth 20000 in
theorem gL_areSubcubes_L_freeSubcubes : GoodIn wsL_areSubcubes (va_wsS RL 133 yL_freeSubcubes wsL_freeSubcubes) := goodIn_app (goodIn_of _ (by decide +kernel)) ggL_areSubcubes_L_freeSubcubes
set_option maxRecDepth 20000 in
theorem ggL_areSubcubes_L_ones : GoodIn wsL_areSubcubes wsL_ones := goodIn_r _ [69] (by decide +kernel) (by decide +kernel)
set_option maxRecDepth 20000 in
theorem gL_areSubcubes_L_ones : GoodIn wsL_areSubcubes (va_wsS RL 113 yL_ones wsL_ones) := goodIn_app (goodIn_of _ (by decide +kernel)) ggL_areSubcubes_L_ones
set_option maxRecDepth 20000 in
theorem ggL_areSubcubes_L_isAlive : GoodIn wsL_areSubcubes wsL_isAlive := goodIn_ca (goodIn_r _ [7, 8, 9, 10, 11, 12, 13, 14, 15, 16, 17, 18, 19, 20, 21, 22, 23, 24, 25, 26, 27, 70, 71, 72, 73, 74, 75, 76, 77, 78, 79, 80, 81, 82, 83, 84] (by decide +kernel) (by decide +kernel)) (goodIn_sub (fun _ h => List.mem_cons_of_mem _ (List.mem_append_right _ h)) (by decide +kernel))
set_option maxRecDepth 20000 in
theorem gL_areSubcubes_L_isAlive : GoodIn wsL_areSubcubes (va_wsS RL 97 yL_isAlive wsL_isAlive) := goodIn_app (goodIn_of _ (by decide +kernel)) ggL_areSubcubes_L_isAlive
theorem dL_areSubcubes_0 : decode cL_areSubcubes 0 = .ok (.aload_n 0, 1) := by decide +kernel
theorem dL_areSubcubes_1 : decode cL_areSubcubes 1 = .ok (.iload_n 1, 1) := by decide +kernel
theorem dL_areSubcubes_2 : decode cL_areSubcubes 2 = .ok (.invokestatic 125, 3) := by decide +kernel
theorem dL_areSubcubes_5 : decode cL_areSubcubes 5 = .ok (.istore_n 2, 1) := by decide +kernel
theorem dL_areSubcubes_6 : decode cL_areSubcubes 6 = .ok (.aload_n 0, 1) := by decide +kernel
theorem dL_areSubcubes_7 : decode cL_areSubcubes 7 = .ok (.invokevirtual 130, 3) := by decide +kernel
theorem dL_areSubcubes_10 : decode cL_areSubcubes 10 = .ok (.istore_n 3, 1) := by decide +kernel
theorem dL_areSubcubes_11 : decode cL_areSubcubes 11 = .ok (.aload_n 0, 1) := by decide +kernel
theorem dL_areSubcubes_12 : decode cL_areSubcubes 12 = .ok (.iconst 0, 1) := by decide +kernel
theorem dL_areSubcubes_13 : decode cL_areSubcubes 13 = .ok (.invokestatic 133, 3) := by decide +kernel
theorem dL_areSubcubes_16 : decode cL_areSubcubes 16 = .ok (.iload_n 2, 1) := by decide +kernel
theorem dL_areSubcubes_17 : decode cL_areSubcubes 17 = .ok (.if_icmp .ne 49, 3) := by decide +kernel
theorem dL_areSubcubes_20 : decode cL_areSubcubes 20 = .ok (.aload_n 0, 1) := by decide +kernel
theorem dL_areSubcubes_21 : decode cL_areSubcubes 21 = .ok (.iload_n 1, 1) := by decide +kernel
theorem dL_areSubcubes_22 : decode cL_areSubcubes 22 = .ok (.invokestatic 133, 3) := by decide +kernel
theorem dL_areSubcubes_25 : decode cL_areSubcubes 25 = .ok (.iload_n 2, 1) := by decide +kernel
theorem dL_areSubcubes_26 : decode cL_areSubcubes 26 = .ok (.iconst 1, 1) := by decide +kernel
theorem dL_areSubcubes_27 : decode cL_areSubcubes 27 = .ok (.iload_n 1, 1) := by decide +kernel
theorem dL_areSubcubes_28 : decode cL_areSubcubes 28 = .ok (.ishl, 1) := by decide +kernel
theorem dL_areSubcubes_29 : decode cL_areSubcubes 29 = .ok (.if_icmp .ne 7, 3) := by decide +kernel
theorem dL_areSubcubes_32 : decode cL_areSubcubes 32 = .ok (.iconst 1, 1) := by decide +kernel
theorem dL_areSubcubes_33 : decode cL_areSubcubes 33 = .ok (.goto 4, 3) := by decide +kernel
theorem dL_areSubcubes_36 : decode cL_areSubcubes 36 = .ok (.iconst 0, 1) := by decide +kernel
theorem dL_areSubcubes_37 : decode cL_areSubcubes 37 = .ok (.if_icmp .ne 29, 3) := by decide +kernel
theorem dL_areSubcubes_40 : decode cL_areSubcubes 40 = .ok (.iload_n 3, 1) := by decide +kernel
theorem dL_areSubcubes_41 : decode cL_areSubcubes 41 = .ok (.iconst (-1), 1) := by decide +kernel
theorem dL_areSubcubes_42 : decode cL_areSubcubes 42 = .ok (.if_icmp .ne 7, 3) := by decide +kernel
theorem dL_areSubcubes_45 : decode cL_areSubcubes 45 = .ok (.iconst 1, 1) := by decide +kernel
theorem dL_areSubcubes_46 : decode cL_areSubcubes 46 = .ok (.goto 4, 3) := by decide +kernel
theorem dL_areSubcubes_49 : decode cL_areSubcubes 49 = .ok (.iconst 0, 1) := by decide +kernel
theorem dL_areSubcubes_50 : decode cL_areSubcubes 50 = .ok (.iload_n 2, 1) := by decide +kernel
theorem dL_areSubcubes_51 : decode cL_areSubcubes 51 = .ok (.ifCond .ne 7, 3) := by decide +kernel
theorem dL_areSubcubes_54 : decode cL_areSubcubes 54 = .ok (.iconst 1, 1) := by decide +kernel
theorem dL_areSubcubes_55 : decode cL_areSubcubes 55 = .ok (.goto 4, 3) := by decide +kernel
theorem dL_areSubcubes_58 : decode cL_areSubcubes 58 = .ok (.iconst 0, 1) := by decide +kernel
theorem dL_areSubcubes_59 : decode cL_areSubcubes 59 = .ok (.if_icmp .ne 7, 3) := by decide +kernel
theorem dL_areSubcubes_62 : decode cL_areSubcubes 62 = .ok (.iconst 1, 1) := by decide +kernel
theorem dL_areSubcubes_63 : decode cL_areSubcubes 63 = .ok (.goto 4, 3) := by decide +kernel
theorem dL_areSubcubes_66 : decode cL_areSubcubes 66 = .ok (.iconst 0, 1) := by decide +kernel
theorem dL_areSubcubes_67 : decode cL_areSubcubes 67 = .ok (.istore 4, 2) := by decide +kernel
theorem dL_areSubcubes_69 : decode cL_areSubcubes 69 = .ok (.iload 4, 2) := by decide +kernel
theorem dL_areSubcubes_71 : decode cL_areSubcubes 71 = .ok (.ifCond .eq 7, 3) := by decide +kernel
theorem dL_areSubcubes_74 : decode cL_areSubcubes 74 = .ok (.iload_n 3, 1) := by decide +kernel
theorem dL_areSubcubes_75 : decode cL_areSubcubes 75 = .ok (.ifCond .ge 6, 3) := by decide +kernel
theorem dL_areSubcubes_78 : decode cL_areSubcubes 78 = .ok (.iload 4, 2) := by decide +kernel
theorem dL_areSubcubes_80 : decode cL_areSubcubes 80 = .ok (.ireturn, 1) := by decide +kernel
theorem dL_areSubcubes_81 : decode cL_areSubcubes 81 = .ok (.iload_n 3, 1) := by decide +kernel
theorem dL_areSubcubes_82 : decode cL_areSubcubes 82 = .ok (.bipush 6, 2) := by decide +kernel
theorem dL_areSubcubes_84 : decode cL_areSubcubes 84 = .ok (.ishr, 1) := by decide +kernel
theorem dL_areSubcubes_85 : decode cL_areSubcubes 85 = .ok (.istore 5, 2) := by decide +kernel
theorem dL_areSubcubes_87 : decode cL_areSubcubes 87 = .ok (.iload_n 3, 1) := by decide +kernel
theorem dL_areSubcubes_88 : decode cL_areSubcubes 88 = .ok (.bipush 63, 2) := by decide +kernel
theorem dL_areSubcubes_90 : decode cL_areSubcubes 90 = .ok (.iand, 1) := by decide +kernel
theorem dL_areSubcubes_91 : decode cL_areSubcubes 91 = .ok (.istore 6, 2) := by decide +kernel
theorem dL_areSubcubes_93 : decode cL_areSubcubes 93 = .ok (.iload 5, 2) := by decide +kernel
theorem dL_areSubcubes_95 : decode cL_areSubcubes 95 = .ok (.iconst 1, 1) := by decide +kernel
theorem dL_areSubcubes_96 : decode cL_areSubcubes 96 = .ok (.iload_n 1, 1) := by decide +kernel
theorem dL_areSubcubes_97 : decode cL_areSubcubes 97 = .ok (.ishl, 1) := by decide +kernel
theorem dL_areSubcubes_98 : decode cL_areSubcubes 98 = .ok (.if_icmp .ge 58, 3) := by decide +kernel
theorem dL_areSubcubes_101 : decode cL_areSubcubes 101 = .ok (.iload 6, 2) := by decide +kernel
theorem dL_areSubcubes_103 : decode cL_areSubcubes 103 = .ok (.iconst 1, 1) := by decide +kernel
theorem dL_areSubcubes_104 : decode cL_areSubcubes 104 = .ok (.iload_n 1, 1) := by decide +kernel
theorem dL_areSubcubes_105 : decode cL_areSubcubes 105 = .ok (.ishl, 1) := by decide +kernel
theorem dL_areSubcubes_106 : decode cL_areSubcubes 106 = .ok (.if_icmp .ge 50, 3) := by decide +kernel
theorem dL_areSubcubes_109 : decode cL_areSubcubes 109 = .ok (.iload 5, 2) := by decide +kernel
theorem dL_areSubcubes_111 : decode cL_areSubcubes 111 = .ok (.iload 6, 2) := by decide +kernel
theorem dL_areSubcubes_113 : decode cL_areSubcubes 113 = .ok (.iand, 1) := by decide +kernel
theorem dL_areSubcubes_114 : decode cL_areSubcubes 114 = .ok (.ifCond .ne 42, 3) := by decide +kernel
theorem dL_areSubcubes_117 : decode cL_areSubcubes 117 = .ok (.aload_n 0, 1) := by decide +kernel
theorem dL_areSubcubes_118 : decode cL_areSubcubes 118 = .ok (.iload 5, 2) := by decide +kernel
theorem dL_areSubcubes_120 : decode cL_areSubcubes 120 = .ok (.invokestatic 113, 3) := by decide +kernel
theorem dL_areSubcubes_123 : decode cL_areSubcubes 123 = .ok (.invokestatic 133, 3) := by decide +kernel
theorem dL_areSubcubes_126 : decode cL_areSubcubes 126 = .ok (.ifCond .le 30, 3) := by decide +kernel
theorem dL_areSubcubes_129 : decode cL_areSubcubes 129 = .ok (.iload 5, 2) := by decide +kernel
theorem dL_areSubcubes_131 : decode cL_areSubcubes 131 = .ok (.invokestatic 113, 3) := by decide +kernel
theorem dL_areSubcubes_134 : decode cL_areSubcubes 134 = .ok (.iload_n 1, 1) := by decide +kernel
theorem dL_areSubcubes_135 : decode cL_areSubcubes 135 = .ok (.if_icmp .eq 17, 3) := by decide +kernel
theorem dL_areSubcubes_138 : decode cL_areSubcubes 138 = .ok (.aload_n 0, 1) := by decide +kernel
theorem dL_areSubcubes_139 : decode cL_areSubcubes 139 = .ok (.iload 5, 2) := by decide +kernel
theorem dL_areSubcubes_141 : decode cL_areSubcubes 141 = .ok (.invokestatic 113, 3) := by decide +kernel
theorem dL_areSubcubes_144 : decode cL_areSubcubes 144 = .ok (.iconst 1, 1) := by decide +kernel
theorem dL_areSubcubes_145 : decode cL_areSubcubes 145 = .ok (.iadd, 1) := by decide +kernel
theorem dL_areSubcubes_146 : decode cL_areSubcubes 146 = .ok (.invokestatic 133, 3) := by decide +kernel
theorem dL_areSubcubes_149 : decode cL_areSubcubes 149 = .ok (.ifCond .ne 7, 3) := by decide +kernel
theorem dL_areSubcubes_152 : decode cL_areSubcubes 152 = .ok (.iconst 1, 1) := by decide +kernel
theorem dL_areSubcubes_153 : decode cL_areSubcubes 153 = .ok (.goto 4, 3) := by decide +kernel
theorem dL_areSubcubes_156 : decode cL_areSubcubes 156 = .ok (.iconst 0, 1) := by decide +kernel
theorem dL_areSubcubes_157 : decode cL_areSubcubes 157 = .ok (.istore 4, 2) := by decide +kernel
theorem dL_areSubcubes_159 : decode cL_areSubcubes 159 = .ok (.iconst 0, 1) := by decide +kernel
theorem dL_areSubcubes_160 : decode cL_areSubcubes 160 = .ok (.istore 7, 2) := by decide +kernel
theorem dL_areSubcubes_162 : decode cL_areSubcubes 162 = .ok (.iload 7, 2) := by decide +kernel
theorem dL_areSubcubes_164 : decode cL_areSubcubes 164 = .ok (.iconst 1, 1) := by decide +kernel
theorem dL_areSubcubes_165 : decode cL_areSubcubes 165 = .ok (.iload_n 1, 1) := by decide +kernel
theorem dL_areSubcubes_166 : decode cL_areSubcubes 166 = .ok (.ishl, 1) := by decide +kernel
theorem dL_areSubcubes_167 : decode cL_areSubcubes 167 = .ok (.if_icmp .ge 43, 3) := by decide +kernel
theorem dL_areSubcubes_170 : decode cL_areSubcubes 170 = .ok (.iload 4, 2) := by decide +kernel
theorem dL_areSubcubes_172 : decode cL_areSubcubes 172 = .ok (.ifCond .eq 38, 3) := by decide +kernel
theorem dL_areSubcubes_175 : decode cL_areSubcubes 175 = .ok (.iload 7, 2) := by decide +kernel
theorem dL_areSubcubes_177 : decode cL_areSubcubes 177 = .ok (.iload 5, 2) := by decide +kernel
theorem dL_areSubcubes_179 : decode cL_areSubcubes 179 = .ok (.iconst (-1), 1) := by decide +kernel
theorem dL_areSubcubes_180 : decode cL_areSubcubes 180 = .ok (.ixor, 1) := by decide +kernel
theorem dL_areSubcubes_181 : decode cL_areSubcubes 181 = .ok (.iand, 1) := by decide +kernel
theorem dL_areSubcubes_182 : decode cL_areSubcubes 182 = .ok (.iload 6, 2) := by decide +kernel
theorem dL_areSubcubes_184 : decode cL_areSubcubes 184 = .ok (.if_icmp .ne 13, 3) := by decide +kernel
theorem dL_areSubcubes_187 : decode cL_areSubcubes 187 = .ok (.aload_n 0, 1) := by decide +kernel
theorem dL_areSubcubes_188 : decode cL_areSubcubes 188 = .ok (.iload 7, 2) := by decide +kernel
theorem dL_areSubcubes_190 : decode cL_areSubcubes 190 = .ok (.invokestatic 97, 3) := by decide +kernel
theorem dL_areSubcubes_193 : decode cL_areSubcubes 193 = .ok (.iconst 1, 1) := by decide +kernel
theorem dL_areSubcubes_194 : decode cL_areSubcubes 194 = .ok (.if_icmp .ne 7, 3) := by decide +kernel
theorem dL_areSubcubes_197 : decode cL_areSubcubes 197 = .ok (.iconst 1, 1) := by decide +kernel
theorem dL_areSubcubes_198 : decode cL_areSubcubes 198 = .ok (.goto 4, 3) := by decide +kernel
theorem dL_areSubcubes_201 : decode cL_areSubcubes 201 = .ok (.iconst 0, 1) := by decide +kernel
theorem dL_areSubcubes_202 : decode cL_areSubcubes 202 = .ok (.istore 4, 2) := by decide +kernel
theorem dL_areSubcubes_204 : decode cL_areSubcubes 204 = .ok (.iinc 7 1, 3) := by decide +kernel
theorem dL_areSubcubes_207 : decode cL_areSubcubes 207 = .ok (.goto (-45), 3) := by decide +kernel
theorem dL_areSubcubes_210 : decode cL_areSubcubes 210 = .ok (.iload 4, 2) := by decide +kernel
theorem dL_areSubcubes_212 : decode cL_areSubcubes 212 = .ok (.ireturn, 1) := by decide +kernel
set_option maxRecDepth 20000 in
theorem ggL_print_X6_rounds : GoodIn wsL_print wsX6_rounds := goodIn_r _ [6, 7, 98, 99, 100, 101, 102, 103, 104, 105, 106, 107, 108] (by decide +kernel) (by decide +kernel)
set_option maxRecDepth 20000 in
theorem gL_print_X6_rounds : GoodIn wsL_print (wsV RL 89 RX6 yX6_rounds wsX6_rounds) := goodIn_app (goodIn_of _ (by decide +kernel)) ggL_print_X6_rounds
set_option maxRecDepth 20000 in
theorem ggL_print_X6_safeNodes : GoodIn wsL_print wsX6_safeNodes := goodIn_r _ [11, 7, 12, 13, 14, 15, 5, 16, 17, 18, 19, 20, 21, 22, 23, 24, 98, 99, 100, 101, 102, 103, 109, 110, 111, 112, 113, 114, 115, 116, 117, 104, 105, 106, 107, 108] (by decide +kernel) (by decide +kernel)
set_option maxRecDepth 20000 in
theorem gL_print_X6_safeNodes : GoodIn wsL_print (wsV RL 102 RX6 yX6_safeNodes wsX6_safeNodes) := goodIn_app (goodIn_of _ (by decide +kernel)) ggL_print_X6_safeNodes
set_option maxRecDepth 20000 in
theorem ggL_print_X6_largestSubcube : GoodIn wsL_print wsX6_largestSubcube := goodIn_r _ [28, 13, 14, 15, 5, 16, 12, 29, 30, 31, 32, 33, 34, 35, 36, 37, 38, 39, 40, 41, 42, 43, 44, 45, 46, 47, 48, 49, 50, 51, 52, 53, 54, 55, 56, 98, 99, 100, 101, 102, 103, 109, 110, 111, 112, 113, 114, 115, 116, 117] (by decide +kernel) (by decide +kernel)
set_option maxRecDepth 20000 in
theorem gL_print_X6_largestSubcube : GoodIn wsL_print (wsV RL 130 RX6 yX6_largestSubcube wsX6_largestSubcube) := goodIn_app (goodIn_of _ (by decide +kernel)) ggL_print_X6_largestSubcube
set_option maxRecDepth 20000 in
theorem ggL_print_L_level : GoodIn wsL_print wsL_level := goodIn_ca (goodIn_r _ [60, 61, 62, 63, 64, 5, 65, 7, 66, 67, 68, 69, 70, 71, 13, 14, 15, 16, 12, 17, 18, 19, 20, 21, 22, 23, 24, 98, 99, 100, 101, 102, 103, 109, 110, 111, 112, 113, 114, 115, 116, 117, 104, 105, 106, 107, 108] (by decide +kernel) (by decide +kernel)) (goodIn_sub (fun _ h => List.mem_cons_of_mem _ (List.mem_append_right _ h)) (by decide +kernel))
set_option maxRecDepth 20000 in
theorem gL_print_L_level : GoodIn wsL_print (va_wsS RL 92 yL_level wsL_level) := goodIn_app (goodIn_of _ (by decide +kernel)) ggL_print_L_level
set_option maxRecDepth 20000 in
theorem ggL_print_L_state : GoodIn wsL_print wsL_state := goodIn_ca (goodIn_r _ [74, 61, 75, 76, 77, 5, 78, 12, 79, 80, 81, 82, 70, 71, 83, 23, 24, 98, 99, 100, 101, 102, 103, 109, 110, 111, 112, 113, 114, 115, 116, 117] (by decide +kernel) (by decide +kernel)) (goodIn_sub (fun _ h => List.mem_cons_of_mem _ (List.mem_append_right _ h)) (by decide +kernel))
set_option maxRecDepth 20000 in
theorem gL_print_L_state : GoodIn wsL_print (va_wsS RL 137 yL_state wsL_state) := goodIn_app (goodIn_of _ (by decide +kernel)) ggL_print_L_state
set_option maxRecDepth 20000 in
theorem ggL_print_L_position : GoodIn wsL_print wsL_position := goodIn_ca (goodIn_r _ [86, 61, 87, 88, 89, 5, 90, 12, 79, 80, 81, 82, 70, 71, 83, 23, 24, 98, 99, 100, 101, 102, 103, 109, 110, 111, 112, 113, 114, 115, 116, 117] (by decide +kernel) (by decide +kernel)) (goodIn_sub (fun _ h => List.mem_cons_of_mem _ (List.mem_append_right _ h)) (by decide +kernel))
set_option maxRecDepth 20000 in
theorem gL_print_L_position : GoodIn wsL_print (va_wsS RL 139 yL_position wsL_position) := goodIn_app (goodIn_of _ (by decide +kernel)) ggL_print_L_position
set_option maxRecDepth 20000 in
theorem ggL_print_L_moves : GoodIn wsL_print wsL_moves := goodIn_ca (goodIn_r _ [93, 61, 94, 95, 96, 5, 97, 12, 79, 80, 81, 82, 70, 71, 83, 23, 24, 98, 99, 100, 101, 102, 103, 109, 110, 111, 112, 113, 114, 115, 116, 117] (by decide +kernel) (by decide +kernel)) (goodIn_sub (fun _ h => List.mem_cons_of_mem _ (List.mem_append_right _ h)) (by decide +kernel))
set_option maxRecDepth 20000 in
theorem gL_print_L_moves : GoodIn wsL_print (va_wsS RL 141 yL_moves wsL_moves) := goodIn_app (goodIn_of _ (by decide +kernel)) ggL_print_L_moves
theorem dL_print_0 : decode cL_print 0 = .ok (.ldc2_w 135, 3) := by decide +kernel
theorem dL_print_3 : decode cL_print 3 = .ok (.ldc2_w 135, 3) := by decide +kernel
theorem dL_print_6 : decode cL_print 6 = .ok (.aload_n 0, 1) := by decide +kernel
theorem dL_print_7 : decode cL_print 7 = .ok (.invokevirtual 89, 3) := by decide +kernel
theorem dL_print_10 : decode cL_print 10 = .ok (.i2l, 1) := by decide +kernel
theorem dL_print_11 : decode cL_print 11 = .ok (.lmul, 1) := by decide +kernel
theorem dL_print_12 : decode cL_print 12 = .ok (.aload_n 0, 1) := by decide +kernel
theorem dL_print_13 : decode cL_print 13 = .ok (.invokevirtual 102, 3) := by decide +kernel
theorem dL_print_16 : decode cL_print 16 = .ok (.i2l, 1) := by decide +kernel
theorem dL_print_17 : decode cL_print 17 = .ok (.ladd, 1) := by decide +kernel
theorem dL_print_18 : decode cL_print 18 = .ok (.lmul, 1) := by decide +kernel
theorem dL_print_19 : decode cL_print 19 = .ok (.aload_n 0, 1) := by decide +kernel
theorem dL_print_20 : decode cL_print 20 = .ok (.invokevirtual 130, 3) := by decide +kernel
theorem dL_print_23 : decode cL_print 23 = .ok (.i2l, 1) := by decide +kernel
theorem dL_print_24 : decode cL_print 24 = .ok (.ladd, 1) := by decide +kernel
theorem dL_print_25 : decode cL_print 25 = .ok (.lstore_n 2, 1) := by decide +kernel
theorem dL_print_26 : decode cL_print 26 = .ok (.iconst 0, 1) := by decide +kernel
theorem dL_print_27 : decode cL_print 27 = .ok (.istore 4, 2) := by decide +kernel
theorem dL_print_29 : decode cL_print 29 = .ok (.iload 4, 2) := by decide +kernel
theorem dL_print_31 : decode cL_print 31 = .ok (.iconst 1, 1) := by decide +kernel
theorem dL_print_32 : decode cL_print 32 = .ok (.iload_n 1, 1) := by decide +kernel
theorem dL_print_33 : decode cL_print 33 = .ok (.ishl, 1) := by decide +kernel
theorem dL_print_34 : decode cL_print 34 = .ok (.if_icmp .ge 23, 3) := by decide +kernel
theorem dL_print_37 : decode cL_print 37 = .ok (.ldc2_w 135, 3) := by decide +kernel
theorem dL_print_40 : decode cL_print 40 = .ok (.lload_n 2, 1) := by decide +kernel
theorem dL_print_41 : decode cL_print 41 = .ok (.lmul, 1) := by decide +kernel
theorem dL_print_42 : decode cL_print 42 = .ok (.aload_n 0, 1) := by decide +kernel
theorem dL_print_43 : decode cL_print 43 = .ok (.iload 4, 2) := by decide +kernel
theorem dL_print_45 : decode cL_print 45 = .ok (.invokestatic 92, 3) := by decide +kernel
theorem dL_print_48 : decode cL_print 48 = .ok (.i2l, 1) := by decide +kernel
theorem dL_print_49 : decode cL_print 49 = .ok (.ladd, 1) := by decide +kernel
theorem dL_print_50 : decode cL_print 50 = .ok (.lstore_n 2, 1) := by decide +kernel
theorem dL_print_51 : decode cL_print 51 = .ok (.iinc 4 1, 3) := by decide +kernel
theorem dL_print_54 : decode cL_print 54 = .ok (.goto (-25), 3) := by decide +kernel
theorem dL_print_57 : decode cL_print 57 = .ok (.iconst 0, 1) := by decide +kernel
theorem dL_print_58 : decode cL_print 58 = .ok (.istore 4, 2) := by decide +kernel
theorem dL_print_60 : decode cL_print 60 = .ok (.iload 4, 2) := by decide +kernel
theorem dL_print_62 : decode cL_print 62 = .ok (.bipush 25, 2) := by decide +kernel
theorem dL_print_64 : decode cL_print 64 = .ok (.if_icmp .ge 47, 3) := by decide +kernel
theorem dL_print_67 : decode cL_print 67 = .ok (.ldc2_w 135, 3) := by decide +kernel
theorem dL_print_70 : decode cL_print 70 = .ok (.ldc2_w 135, 3) := by decide +kernel
theorem dL_print_73 : decode cL_print 73 = .ok (.ldc2_w 135, 3) := by decide +kernel
theorem dL_print_76 : decode cL_print 76 = .ok (.lload_n 2, 1) := by decide +kernel
theorem dL_print_77 : decode cL_print 77 = .ok (.lmul, 1) := by decide +kernel
theorem dL_print_78 : decode cL_print 78 = .ok (.aload_n 0, 1) := by decide +kernel
theorem dL_print_79 : decode cL_print 79 = .ok (.iload 4, 2) := by decide +kernel
theorem dL_print_81 : decode cL_print 81 = .ok (.invokestatic 137, 3) := by decide +kernel
theorem dL_print_84 : decode cL_print 84 = .ok (.i2l, 1) := by decide +kernel
theorem dL_print_85 : decode cL_print 85 = .ok (.ladd, 1) := by decide +kernel
theorem dL_print_86 : decode cL_print 86 = .ok (.lmul, 1) := by decide +kernel
theorem dL_print_87 : decode cL_print 87 = .ok (.aload_n 0, 1) := by decide +kernel
theorem dL_print_88 : decode cL_print 88 = .ok (.iload 4, 2) := by decide +kernel
theorem dL_print_90 : decode cL_print 90 = .ok (.invokestatic 139, 3) := by decide +kernel
theorem dL_print_93 : decode cL_print 93 = .ok (.i2l, 1) := by decide +kernel
theorem dL_print_94 : decode cL_print 94 = .ok (.ladd, 1) := by decide +kernel
theorem dL_print_95 : decode cL_print 95 = .ok (.lmul, 1) := by decide +kernel
theorem dL_print_96 : decode cL_print 96 = .ok (.aload_n 0, 1) := by decide +kernel
theorem dL_print_97 : decode cL_print 97 = .ok (.iload 4, 2) := by decide +kernel
theorem dL_print_99 : decode cL_print 99 = .ok (.invokestatic 141, 3) := by decide +kernel
theorem dL_print_102 : decode cL_print 102 = .ok (.i2l, 1) := by decide +kernel
theorem dL_print_103 : decode cL_print 103 = .ok (.ladd, 1) := by decide +kernel
theorem dL_print_104 : decode cL_print 104 = .ok (.lstore_n 2, 1) := by decide +kernel
theorem dL_print_105 : decode cL_print 105 = .ok (.iinc 4 1, 3) := by decide +kernel
theorem dL_print_108 : decode cL_print 108 = .ok (.goto (-48), 3) := by decide +kernel
theorem dL_print_111 : decode cL_print 111 = .ok (.lload_n 2, 1) := by decide +kernel
theorem dL_print_112 : decode cL_print 112 = .ok (.lreturn, 1) := by decide +kernel
set_option maxRecDepth 20000 in
theorem ggL_refused_L_print : GoodIn wsL_refused wsL_print := goodIn_ca (goodIn_r _ [4, 5, 6, 7, 8, 9, 10, 11, 12, 13, 14, 15, 16, 17, 18, 19, 20, 21, 22, 23, 24, 25, 26, 27, 28, 29, 30, 31, 32, 33, 34, 35, 36, 37, 38, 39, 40, 41, 42, 43, 44, 45, 46, 47, 48, 49, 50, 51, 52, 53, 54, 55, 56, 57, 58, 59, 60, 61, 62, 3, 63, 64, 65, 66, 67, 68, 69, 70, 71, 72, 73, 74, 75, 76, 77, 78, 79, 80, 81, 82, 83, 84, 85, 86, 87, 88, 89, 90, 91, 92, 93, 94, 95, 96, 97, 98, 99, 100, 385, 386, 387, 388, 389, 390, 391, 392, 393, 394, 395, 396, 397, 398, 399, 400, 401, 402, 403, 404] (by decide +kernel) (by decide +kernel)) (goodIn_sub (fun _ h => List.mem_cons_of_mem _ (List.mem_append_left _ (List.mem_append_right _ h))) (by decide +kernel))
set_option maxRecDepth 20000 in
theorem gL_refused_L_print : GoodIn wsL_refused (va_wsS RL 143 yL_print wsL_print) := goodIn_app (goodIn_of _ (by decide +kernel)) ggL_refused_L_print
set_option maxRecDepth 20000 in
theorem ggL_refused_L_setDimension : GoodIn wsL_refused wsL_setDimension := goodIn_ca (goodIn_r _ [103, 64, 104, 105, 106, 9, 107, 73, 74, 16, 108, 109, 110, 111, 112, 113, 114, 115, 116, 117, 118, 119, 120, 121, 122, 123, 124, 125, 126, 127, 128, 129, 130, 131, 132, 133, 134, 135, 136, 137, 138, 139, 140, 141, 142, 143, 144, 145, 146, 147, 148, 149, 150, 151, 11, 152, 153, 154, 24, 155, 156, 157, 158, 159, 160, 161, 26, 162, 163, 164, 165, 166, 167, 168, 169, 170, 171, 172, 173, 174, 175, 176, 177, 178, 179, 180, 181, 27, 28, 182, 183, 184, 185, 186, 187, 188, 189, 190, 191, 192, 193, 194, 385, 386, 387, 388, 389, 390, 396, 397, 398, 399, 400, 401, 402, 403, 404, 405, 406, 407, 391, 392, 393, 394, 395] (by decide +kernel) (by decide +kernel)) (goodIn_sub (fun _ h => List.mem_cons_of_mem _ (List.mem_append_left _ (List.mem_append_right _ h))) (by decide +kernel))
set_option maxRecDepth 20000 in
theorem gL_refused_L_setDimension : GoodIn wsL_refused (va_wsS RL 147 yL_setDimension wsL_setDimension) := goodIn_app (goodIn_of _ (by decide +kernel)) ggL_refused_L_setDimension
set_option maxRecDepth 20000 in
theorem ggL_refused_L_kill : GoodIn wsL_refused wsL_kill := goodIn_ca (goodIn_ca (goodIn_r _ [197, 64, 198, 199, 200, 201, 9, 202, 108, 16, 69, 70, 71, 72, 73, 74, 17, 18, 19, 20, 203, 204, 205, 206, 207, 208, 209, 162, 163, 109, 110, 111, 112, 113, 114, 115, 116, 117, 118, 119, 120, 121, 122, 123, 124, 125, 126, 127, 128, 129, 130, 131, 132, 133, 134, 135, 136, 137, 138, 139, 140, 141, 142, 210, 211, 212, 213, 147, 27, 28, 164, 165, 148, 149, 150, 151, 11, 152, 153, 154, 24, 155, 156, 157, 158, 159, 160, 161, 26, 166, 167, 168, 169, 170, 171, 172, 173, 174, 175, 176, 177, 178, 179, 180, 181, 182, 183, 184, 185, 186, 187, 188, 189, 190, 191, 192, 193, 194, 385, 386, 387, 388, 389, 390, 396, 397, 398, 399, 400, 401, 402, 403, 404, 405, 406, 407, 391, 392, 393, 394, 395] (by decide +kernel) (by decide +kernel)) (goodIn_sub (fun _ h => List.mem_cons_of_mem _ (List.mem_append_left _ (List.mem_append_right _ h))) (by decide +kernel))) (goodIn_sub (fun _ h => List.mem_cons_of_mem _ (List.mem_append_right _ h)) (by decide +kernel))
set_option maxRecDepth 20000 in
theorem gL_refused_L_kill : GoodIn wsL_refused (va_wsS RL 149 yL_kill wsL_kill) := goodIn_app (goodIn_of _ (by decide +kernel)) ggL_refused_L_kill
set_option maxRecDepth 20000 in
theorem ggL_refused_L_revive : GoodIn wsL_refused wsL_revive := goodIn_ca (goodIn_ca (goodIn_r _ [216, 64, 198, 217, 218, 219, 9, 220, 207, 208, 16, 108, 69, 70, 71, 72, 73, 74, 17, 18, 19, 20, 209, 162, 163, 109, 110, 111, 112, 113, 114, 115, 116, 117, 118, 119, 120, 121, 122, 123, 124, 125, 126, 127, 128, 129, 130, 131, 132, 133, 134, 135, 136, 137, 138, 139, 140, 141, 142, 148, 149, 150, 151, 11, 152, 153, 154, 24, 155, 156, 157, 158, 159, 160, 161, 26, 164, 165, 166, 167, 168, 169, 170, 171, 172, 173, 174, 175, 176, 177, 178, 179, 180, 181, 27, 28, 182, 183, 184, 185, 186, 187, 188, 189, 190, 191, 192, 193, 194, 54, 55, 56, 57, 58, 59, 60, 385, 386, 387, 388, 389, 390, 396, 397, 398, 399, 400, 401, 402, 403, 404, 405, 406, 407, 391, 392, 393, 394, 395] (by decide +kernel) (by decide +kernel)) (goodIn_sub (fun _ h => List.mem_cons_of_mem _ (List.mem_append_right _ h)) (by decide +kernel))) (goodIn_sub (fun _ h => List.mem_cons_of_mem _ (List.mem_append_left _ (List.mem_append_right _ h))) (by decide +kernel))
set_option maxRecDepth 20000 in
theorem gL_refused_L_revive : GoodIn wsL_refused (va_wsS RL 151 yL_revive wsL_revive) := goodIn_app (goodIn_of _ (by decide +kernel)) ggL_refused_L_revive
set_option maxRecDepth 20000 in
theorem ggL_refused_L_distance : GoodIn wsL_refused wsL_distance := goodIn_ca (goodIn_r _ [223, 64, 224, 225, 226, 9, 227, 69, 70, 71, 72, 73, 74, 17, 18, 19, 20, 16, 44, 45, 46, 47, 48, 49, 50, 385, 386, 387, 388, 389, 390, 396, 397, 398, 399, 400, 401, 402, 403, 404] (by decide +kernel) (by decide +kernel)) (goodIn_sub (fun _ h => List.mem_cons_of_mem _ (List.mem_append_left _ (List.mem_append_right _ h))) (by decide +kernel))
set_option maxRecDepth 20000 in
theorem gL_refused_L_distance : GoodIn wsL_refused (va_wsS RL 105 yL_distance wsL_distance) := goodIn_app (goodIn_of _ (by decide +kernel)) ggL_refused_L_distance
set_option maxRecDepth 20000 in
theorem ggL_refused_L_level : GoodIn wsL_refused wsL_level := goodIn_ca (goodIn_r _ [63, 64, 65, 66, 67, 9, 68, 11, 69, 70, 71, 72, 73, 74, 17, 18, 19, 20, 16, 21, 22, 23, 24, 25, 26, 27, 28, 385, 386, 387, 388, 389, 390, 396, 397, 398, 399, 400, 401, 402, 403, 404, 391, 392, 393, 394, 395] (by decide +kernel) (by decide +kernel)) (goodIn_sub (fun _ h => List.mem_cons_of_mem _ (List.mem_append_left _ (List.mem_append_right _ h))) (by decide +kernel))
set_option maxRecDepth 20000 in
theorem gL_refused_L_level : GoodIn wsL_refused (va_wsS RL 92 yL_level wsL_level) := goodIn_app (goodIn_of _ (by decide +kernel)) ggL_refused_L_level
set_option maxRecDepth 20000 in
theorem ggL_refused_L_vectorBit : GoodIn wsL_refused wsL_vectorBit := goodIn_ca (goodIn_r _ [230, 64, 231, 232, 233, 9, 234, 73, 74, 16, 11, 69, 70, 71, 72, 17, 18, 19, 20, 235, 236, 237, 24, 238, 186, 162, 163, 385, 386, 387, 388, 389, 390, 396, 397, 398, 399, 400, 401, 402, 403, 404, 391, 392, 393, 394, 395] (by decide +kernel) (by decide +kernel)) (goodIn_sub (fun _ h => List.mem_cons_of_mem _ (List.mem_append_left _ (List.mem_append_right _ h))) (by decide +kernel))
set_option maxRecDepth 20000 in
theorem gL_refused_L_vectorBit : GoodIn wsL_refused (va_wsS RL 99 yL_vectorBit wsL_vectorBit) := goodIn_app (goodIn_of _ (by decide +kernel)) ggL_refused_L_vectorBit
set_option maxRecDepth 20000 in
theorem ggL_refused_L_routeNode : GoodIn wsL_refused wsL_routeNode := goodIn_ca (goodIn_ca (goodIn_r _ [241, 64, 198, 242, 243, 244, 9, 245, 73, 74, 69, 70, 71, 72, 17, 18, 19, 20, 16, 203, 204, 205, 206, 207, 208, 209, 162, 163, 246, 247, 248, 249, 250, 251, 252, 253, 11, 44, 45, 46, 47, 48, 49, 50, 21, 22, 23, 24, 25, 26, 27, 28, 254, 255, 256, 257, 258, 259, 260, 261, 156, 38, 39, 180, 181, 262, 263, 264, 265, 266, 267, 268, 269, 270, 271, 272, 385, 386, 387, 388, 389, 390, 396, 397, 398, 399, 400, 401, 402, 403, 404, 391, 392, 393, 394, 395] (by decide +kernel) (by decide +kernel)) (goodIn_sub (fun _ h => List.mem_cons_of_mem _ (List.mem_append_left _ (List.mem_append_right _ h))) (by decide +kernel))) (goodIn_sub (fun _ h => List.mem_cons_of_mem _ (List.mem_append_right _ h)) (by decide +kernel))
set_option maxRecDepth 20000 in
theorem gL_refused_L_routeNode : GoodIn wsL_refused (va_wsS RL 116 yL_routeNode wsL_routeNode) := goodIn_app (goodIn_of _ (by decide +kernel)) ggL_refused_L_routeNode
set_option maxRecDepth 20000 in
theorem ggL_refused_L_reach : GoodIn wsL_refused wsL_reach := goodIn_ca (goodIn_ca (goodIn_r _ [275, 64, 198, 276, 277, 278, 9, 279, 73, 74, 16, 69, 70, 71, 72, 17, 18, 19, 20, 203, 204, 205, 206, 207, 208, 209, 162, 163, 250, 251, 252, 253, 11, 44, 45, 46, 47, 48, 49, 50, 21, 22, 23, 24, 25, 26, 27, 28, 254, 255, 256, 257, 258, 259, 260, 261, 156, 38, 39, 180, 181, 262, 263, 264, 265, 266, 385, 386, 387, 388, 389, 390, 396, 397, 398, 399, 400, 401, 402, 403, 404, 391, 392, 393, 394, 395] (by decide +kernel) (by decide +kernel)) (goodIn_sub (fun _ h => List.mem_cons_of_mem _ (List.mem_append_left _ (List.mem_append_right _ h))) (by decide +kernel))) (goodIn_sub (fun _ h => List.mem_cons_of_mem _ (List.mem_append_right _ h)) (by decide +kernel))
set_option maxRecDepth 20000 in
theorem gL_refused_L_reach : GoodIn wsL_refused (va_wsS RL 123 yL_reach wsL_reach) := goodIn_app (goodIn_of _ (by decide +kernel)) ggL_refused_L_reach
set_option maxRecDepth 20000 in
theorem ggL_refused_L_freeSubcubes : GoodIn wsL_refused wsL_freeSubcubes := goodIn_ca (goodIn_r _ [282, 64, 283, 284, 285, 9, 286, 73, 74, 16, 17, 18, 19, 20, 44, 45, 46, 47, 48, 49, 50, 33, 34, 35, 36, 37, 38, 39, 40, 41, 42, 43, 54, 55, 56, 57, 58, 59, 60, 385, 386, 387, 388, 389, 390, 396, 397, 398, 399, 400, 401, 402, 403, 404] (by decide +kernel) (by decide +kernel)) (goodIn_sub (fun _ h => List.mem_cons_of_mem _ (List.mem_append_left _ (List.mem_append_right _ h))) (by decide +kernel))
set_option maxRecDepth 20000 in
theorem gL_refused_L_freeSubcubes : GoodIn wsL_refused (va_wsS RL 133 yL_freeSubcubes wsL_freeSubcubes) := goodIn_app (goodIn_of _ (by decide +kernel)) ggL_refused_L_freeSubcubes
set_option maxRecDepth 20000 in
theorem ggL_refused_L_disjointPaths : GoodIn wsL_refused wsL_disjointPaths := goodIn_ca (goodIn_ca (goodIn_r _ [289, 64, 198, 290, 291, 292, 9, 293, 73, 74, 294, 16, 69, 70, 71, 72, 17, 18, 19, 20, 203, 204, 205, 206, 207, 208, 209, 162, 163, 295, 296, 297, 298, 299, 300, 301, 302, 303, 304, 305, 306, 189, 307, 308, 309, 310, 311, 312, 313, 314, 315, 316, 317, 318, 319, 320, 321, 27, 28, 164, 165, 322, 323, 324, 325, 326, 327, 328, 180, 181, 38, 39, 329, 330, 331, 332, 333, 334, 335, 336, 385, 386, 387, 388, 389, 390, 396, 397, 398, 399, 400, 401, 402, 403, 404, 408, 409, 410, 411, 412, 413, 414, 415] (by decide +kernel) (by decide +kernel)) (goodIn_sub (fun _ h => List.mem_cons_of_mem _ (List.mem_append_left _ (List.mem_append_right _ h))) (by decide +kernel))) (goodIn_sub (fun _ h => List.mem_cons_of_mem _ (List.mem_append_right _ h)) (by decide +kernel))
set_option maxRecDepth 20000 in
theorem gL_refused_L_disjointPaths : GoodIn wsL_refused (va_wsS RL 128 yL_disjointPaths wsL_disjointPaths) := goodIn_app (goodIn_of _ (by decide +kernel)) ggL_refused_L_disjointPaths
set_option maxRecDepth 20000 in
theorem ggL_refused_L_send : GoodIn wsL_refused wsL_send := goodIn_ca (goodIn_ca (goodIn_r _ [339, 64, 198, 340, 341, 342, 9, 343, 207, 208, 16, 108, 344, 345, 346, 347, 69, 70, 71, 72, 73, 74, 17, 18, 19, 20, 203, 204, 205, 206, 209, 162, 163, 109, 110, 111, 112, 113, 114, 115, 116, 117, 118, 119, 120, 121, 122, 123, 124, 125, 126, 127, 128, 129, 130, 131, 132, 133, 134, 135, 136, 137, 138, 139, 140, 141, 142, 348, 349, 350, 351, 164, 165, 385, 386, 387, 388, 389, 390, 396, 397, 398, 399, 400, 401, 402, 403, 404, 405, 406, 407] (by decide +kernel) (by decide +kernel)) (goodIn_sub (fun _ h => List.mem_cons_of_mem _ (List.mem_append_right _ h)) (by decide +kernel))) (goodIn_sub (fun _ h => List.mem_cons_of_mem _ (List.mem_append_left _ (List.mem_append_right _ h))) (by decide +kernel))
set_option maxRecDepth 20000 in
theorem gL_refused_L_send : GoodIn wsL_refused (va_wsS RL 153 yL_send wsL_send) := goodIn_app (goodIn_of _ (by decide +kernel)) ggL_refused_L_send
set_option maxRecDepth 20000 in
theorem ggL_refused_L_step : GoodIn wsL_refused wsL_step := goodIn_ca (goodIn_r _ [354, 64, 355, 356, 357, 9, 358, 73, 74, 108, 16, 359, 11, 109, 110, 111, 112, 113, 114, 115, 116, 117, 118, 119, 120, 121, 122, 123, 124, 125, 126, 127, 128, 129, 130, 131, 132, 133, 134, 135, 136, 137, 138, 139, 140, 141, 142, 360, 361, 362, 363, 364, 365, 366, 306, 189, 307, 27, 28, 367, 368, 369, 370, 371, 255, 256, 24, 257, 258, 259, 260, 261, 156, 38, 39, 180, 181, 262, 22, 23, 25, 26, 372, 264, 265, 266, 373, 164, 165, 374, 375, 376, 377, 385, 386, 387, 388, 389, 390, 405, 406, 407, 396, 397, 398, 399, 400, 401, 402, 403, 404, 416, 391, 392, 393, 394, 395] (by decide +kernel) (by decide +kernel)) (goodIn_sub (fun _ h => List.mem_cons_of_mem _ (List.mem_append_left _ (List.mem_append_right _ h))) (by decide +kernel))
set_option maxRecDepth 20000 in
theorem gL_refused_L_step : GoodIn wsL_refused (va_wsS RL 155 yL_step wsL_step) := goodIn_app (goodIn_of _ (by decide +kernel)) ggL_refused_L_step
set_option maxRecDepth 20000 in
theorem ggL_refused_L_state : GoodIn wsL_refused wsL_state := goodIn_ca (goodIn_r _ [77, 64, 78, 79, 80, 9, 81, 16, 82, 83, 84, 85, 73, 74, 86, 27, 28, 385, 386, 387, 388, 389, 390, 396, 397, 398, 399, 400, 401, 402, 403, 404] (by decide +kernel) (by decide +kernel)) (goodIn_sub (fun _ h => List.mem_cons_of_mem _ (List.mem_append_left _ (List.mem_append_right _ h))) (by decide +kernel))
set_option maxRecDepth 20000 in
theorem gL_refused_L_state : GoodIn wsL_refused (va_wsS RL 137 yL_state wsL_state) := goodIn_app (goodIn_of _ (by decide +kernel)) ggL_refused_L_state
set_option maxRecDepth 20000 in
theorem ggL_refused_L_position : GoodIn wsL_refused wsL_position := goodIn_ca (goodIn_r _ [89, 64, 90, 91, 92, 9, 93, 16, 82, 83, 84, 85, 73, 74, 86, 27, 28, 385, 386, 387, 388, 389, 390, 396, 397, 398, 399, 400, 401, 402, 403, 404] (by decide +kernel) (by decide +kernel)) (goodIn_sub (fun _ h => List.mem_cons_of_mem _ (List.mem_append_left _ (List.mem_append_right _ h))) (by decide +kernel))
set_option maxRecDepth 20000 in
theorem gL_refused_L_position : GoodIn wsL_refused (va_wsS RL 139 yL_position wsL_position) := goodIn_app (goodIn_of _ (by decide +kernel)) ggL_refused_L_position
set_option maxRecDepth 20000 in
theorem ggL_refused_L_moves : GoodIn wsL_refused wsL_moves := goodIn_ca (goodIn_r _ [96, 64, 97, 98, 99, 9, 100, 16, 82, 83, 84, 85, 73, 74, 86, 27, 28, 385, 386, 387, 388, 389, 390, 396, 397, 398, 399, 400, 401, 402, 403, 404] (by decide +kernel) (by decide +kernel)) (goodIn_sub (fun _ h => List.mem_cons_of_mem _ (List.mem_append_left _ (List.mem_append_right _ h))) (by decide +kernel))
set_option maxRecDepth 20000 in
theorem gL_refused_L_moves : GoodIn wsL_refused (va_wsS RL 141 yL_moves wsL_moves) := goodIn_app (goodIn_of _ (by decide +kernel)) ggL_refused_L_moves
set_option maxRecDepth 20000 in
theorem ggL_refused_L_count : GoodIn wsL_refused wsL_count := goodIn_ca (goodIn_r _ [380, 64, 381, 382, 383, 9, 384, 73, 74, 16, 86, 27, 28, 385, 386, 387, 388, 389, 390, 396, 397, 398, 399, 400, 401, 402, 403, 404] (by decide +kernel) (by decide +kernel)) (goodIn_sub (fun _ h => List.mem_cons_of_mem _ (List.mem_append_left _ (List.mem_append_right _ h))) (by decide +kernel))
set_option maxRecDepth 20000 in
theorem gL_refused_L_count : GoodIn wsL_refused (va_wsS RL 157 yL_count wsL_count) := goodIn_app (goodIn_of _ (by decide +kernel)) ggL_refused_L_count
theorem dL_refused_0 : decode cL_refused 0 = .ok (.aload_n 0, 1) := by decide +kernel
theorem dL_refused_1 : decode cL_refused 1 = .ok (.iload_n 1, 1) := by decide +kernel
theorem dL_refused_2 : decode cL_refused 2 = .ok (.invokestatic 143, 3) := by decide +kernel
theorem dL_refused_5 : decode cL_refused 5 = .ok (.lstore_n 2, 1) := by decide +kernel
theorem dL_refused_6 : decode cL_refused 6 = .ok (.iconst 1, 1) := by decide +kernel
theorem dL_refused_7 : decode cL_refused 7 = .ok (.iload_n 1, 1) := by decide +kernel
theorem dL_refused_8 : decode cL_refused 8 = .ok (.ishl, 1) := by decide +kernel
theorem dL_refused_9 : decode cL_refused 9 = .ok (.istore 4, 2) := by decide +kernel
theorem dL_refused_11 : decode cL_refused 11 = .ok (.aload_n 0, 1) := by decide +kernel
theorem dL_refused_12 : decode cL_refused 12 = .ok (.iconst (-1), 1) := by decide +kernel
theorem dL_refused_13 : decode cL_refused 13 = .ok (.invokestatic 147, 3) := by decide +kernel
theorem dL_refused_16 : decode cL_refused 16 = .ok (.sipush (-1000), 3) := by decide +kernel
theorem dL_refused_19 : decode cL_refused 19 = .ok (.if_icmp .ne 188, 3) := by decide +kernel
theorem dL_refused_22 : decode cL_refused 22 = .ok (.aload_n 0, 1) := by decide +kernel
theorem dL_refused_23 : decode cL_refused 23 = .ok (.iload 4, 2) := by decide +kernel
theorem dL_refused_25 : decode cL_refused 25 = .ok (.invokestatic 149, 3) := by decide +kernel
theorem dL_refused_28 : decode cL_refused 28 = .ok (.sipush (-1000), 3) := by decide +kernel
theorem dL_refused_31 : decode cL_refused 31 = .ok (.if_icmp .ne 176, 3) := by decide +kernel
theorem dL_refused_34 : decode cL_refused 34 = .ok (.aload_n 0, 1) := by decide +kernel
theorem dL_refused_35 : decode cL_refused 35 = .ok (.iconst (-1), 1) := by decide +kernel
theorem dL_refused_36 : decode cL_refused 36 = .ok (.invokestatic 151, 3) := by decide +kernel
theorem dL_refused_39 : decode cL_refused 39 = .ok (.sipush (-1000), 3) := by decide +kernel
theorem dL_refused_42 : decode cL_refused 42 = .ok (.if_icmp .ne 165, 3) := by decide +kernel
theorem dL_refused_45 : decode cL_refused 45 = .ok (.aload_n 0, 1) := by decide +kernel
theorem dL_refused_46 : decode cL_refused 46 = .ok (.iload 4, 2) := by decide +kernel
theorem dL_refused_48 : decode cL_refused 48 = .ok (.iconst 0, 1) := by decide +kernel
theorem dL_refused_49 : decode cL_refused 49 = .ok (.invokestatic 105, 3) := by decide +kernel
theorem dL_refused_52 : decode cL_refused 52 = .ok (.sipush (-1000), 3) := by decide +kernel
theorem dL_refused_55 : decode cL_refused 55 = .ok (.if_icmp .ne 152, 3) := by decide +kernel
theorem dL_refused_58 : decode cL_refused 58 = .ok (.aload_n 0, 1) := by decide +kernel
theorem dL_refused_59 : decode cL_refused 59 = .ok (.iconst (-1), 1) := by decide +kernel
theorem dL_refused_60 : decode cL_refused 60 = .ok (.invokestatic 92, 3) := by decide +kernel
theorem dL_refused_63 : decode cL_refused 63 = .ok (.sipush (-1000), 3) := by decide +kernel
theorem dL_refused_66 : decode cL_refused 66 = .ok (.if_icmp .ne 141, 3) := by decide +kernel
theorem dL_refused_69 : decode cL_refused 69 = .ok (.aload_n 0, 1) := by decide +kernel
theorem dL_refused_70 : decode cL_refused 70 = .ok (.iconst 0, 1) := by decide +kernel
theorem dL_refused_71 : decode cL_refused 71 = .ok (.iload_n 1, 1) := by decide +kernel
theorem dL_refused_72 : decode cL_refused 72 = .ok (.iconst 1, 1) := by decide +kernel
theorem dL_refused_73 : decode cL_refused 73 = .ok (.iadd, 1) := by decide +kernel
theorem dL_refused_74 : decode cL_refused 74 = .ok (.invokestatic 99, 3) := by decide +kernel
theorem dL_refused_77 : decode cL_refused 77 = .ok (.sipush (-1000), 3) := by decide +kernel
theorem dL_refused_80 : decode cL_refused 80 = .ok (.if_icmp .ne 127, 3) := by decide +kernel
theorem dL_refused_83 : decode cL_refused 83 = .ok (.aload_n 0, 1) := by decide +kernel
theorem dL_refused_84 : decode cL_refused 84 = .ok (.iconst 0, 1) := by decide +kernel
theorem dL_refused_85 : decode cL_refused 85 = .ok (.iconst 0, 1) := by decide +kernel
theorem dL_refused_86 : decode cL_refused 86 = .ok (.iconst (-1), 1) := by decide +kernel
theorem dL_refused_87 : decode cL_refused 87 = .ok (.invokestatic 116, 3) := by decide +kernel
theorem dL_refused_90 : decode cL_refused 90 = .ok (.sipush (-1000), 3) := by decide +kernel
theorem dL_refused_93 : decode cL_refused 93 = .ok (.if_icmp .ne 114, 3) := by decide +kernel
theorem dL_refused_96 : decode cL_refused 96 = .ok (.aload_n 0, 1) := by decide +kernel
theorem dL_refused_97 : decode cL_refused 97 = .ok (.iconst 0, 1) := by decide +kernel
theorem dL_refused_98 : decode cL_refused 98 = .ok (.iconst (-1), 1) := by decide +kernel
theorem dL_refused_99 : decode cL_refused 99 = .ok (.invokestatic 123, 3) := by decide +kernel
theorem dL_refused_102 : decode cL_refused 102 = .ok (.sipush (-1000), 3) := by decide +kernel
theorem dL_refused_105 : decode cL_refused 105 = .ok (.if_icmp .ne 102, 3) := by decide +kernel
theorem dL_refused_108 : decode cL_refused 108 = .ok (.aload_n 0, 1) := by decide +kernel
theorem dL_refused_109 : decode cL_refused 109 = .ok (.iload_n 1, 1) := by decide +kernel
theorem dL_refused_110 : decode cL_refused 110 = .ok (.iconst 1, 1) := by decide +kernel
theorem dL_refused_111 : decode cL_refused 111 = .ok (.iadd, 1) := by decide +kernel
theorem dL_refused_112 : decode cL_refused 112 = .ok (.invokestatic 133, 3) := by decide +kernel
theorem dL_refused_115 : decode cL_refused 115 = .ok (.sipush (-1000), 3) := by decide +kernel
theorem dL_refused_118 : decode cL_refused 118 = .ok (.if_icmp .ne 89, 3) := by decide +kernel
theorem dL_refused_121 : decode cL_refused 121 = .ok (.aload_n 0, 1) := by decide +kernel
theorem dL_refused_122 : decode cL_refused 122 = .ok (.iconst 0, 1) := by decide +kernel
theorem dL_refused_123 : decode cL_refused 123 = .ok (.iconst 0, 1) := by decide +kernel
theorem dL_refused_124 : decode cL_refused 124 = .ok (.invokestatic 128, 3) := by decide +kernel
theorem dL_refused_127 : decode cL_refused 127 = .ok (.sipush (-1000), 3) := by decide +kernel
theorem dL_refused_130 : decode cL_refused 130 = .ok (.if_icmp .ne 77, 3) := by decide +kernel
theorem dL_refused_133 : decode cL_refused 133 = .ok (.aload_n 0, 1) := by decide +kernel
theorem dL_refused_134 : decode cL_refused 134 = .ok (.iconst 0, 1) := by decide +kernel
theorem dL_refused_135 : decode cL_refused 135 = .ok (.iload 4, 2) := by decide +kernel
theorem dL_refused_137 : decode cL_refused 137 = .ok (.invokestatic 153, 3) := by decide +kernel
theorem dL_refused_140 : decode cL_refused 140 = .ok (.sipush (-1000), 3) := by decide +kernel
theorem dL_refused_143 : decode cL_refused 143 = .ok (.if_icmp .ne 64, 3) := by decide +kernel
theorem dL_refused_146 : decode cL_refused 146 = .ok (.aload_n 0, 1) := by decide +kernel
theorem dL_refused_147 : decode cL_refused 147 = .ok (.iconst 0, 1) := by decide +kernel
theorem dL_refused_148 : decode cL_refused 148 = .ok (.invokestatic 155, 3) := by decide +kernel
theorem dL_refused_151 : decode cL_refused 151 = .ok (.sipush (-1000), 3) := by decide +kernel
theorem dL_refused_154 : decode cL_refused 154 = .ok (.if_icmp .ne 53, 3) := by decide +kernel
theorem dL_refused_157 : decode cL_refused 157 = .ok (.aload_n 0, 1) := by decide +kernel
theorem dL_refused_158 : decode cL_refused 158 = .ok (.bipush 24, 2) := by decide +kernel
theorem dL_refused_160 : decode cL_refused 160 = .ok (.invokestatic 137, 3) := by decide +kernel
theorem dL_refused_163 : decode cL_refused 163 = .ok (.sipush (-1000), 3) := by decide +kernel
theorem dL_refused_166 : decode cL_refused 166 = .ok (.if_icmp .ne 41, 3) := by decide +kernel
theorem dL_refused_169 : decode cL_refused 169 = .ok (.aload_n 0, 1) := by decide +kernel
theorem dL_refused_170 : decode cL_refused 170 = .ok (.iconst (-1), 1) := by decide +kernel
theorem dL_refused_171 : decode cL_refused 171 = .ok (.invokestatic 139, 3) := by decide +kernel
theorem dL_refused_174 : decode cL_refused 174 = .ok (.sipush (-1000), 3) := by decide +kernel
theorem dL_refused_177 : decode cL_refused 177 = .ok (.if_icmp .ne 30, 3) := by decide +kernel
theorem dL_refused_180 : decode cL_refused 180 = .ok (.aload_n 0, 1) := by decide +kernel
theorem dL_refused_181 : decode cL_refused 181 = .ok (.bipush 24, 2) := by decide +kernel
theorem dL_refused_183 : decode cL_refused 183 = .ok (.invokestatic 141, 3) := by decide +kernel
theorem dL_refused_186 : decode cL_refused 186 = .ok (.sipush (-1000), 3) := by decide +kernel
theorem dL_refused_189 : decode cL_refused 189 = .ok (.if_icmp .ne 18, 3) := by decide +kernel
theorem dL_refused_192 : decode cL_refused 192 = .ok (.aload_n 0, 1) := by decide +kernel
theorem dL_refused_193 : decode cL_refused 193 = .ok (.iconst 3, 1) := by decide +kernel
theorem dL_refused_194 : decode cL_refused 194 = .ok (.invokestatic 157, 3) := by decide +kernel
theorem dL_refused_197 : decode cL_refused 197 = .ok (.sipush (-1000), 3) := by decide +kernel
theorem dL_refused_200 : decode cL_refused 200 = .ok (.if_icmp .ne 7, 3) := by decide +kernel
theorem dL_refused_203 : decode cL_refused 203 = .ok (.iconst 1, 1) := by decide +kernel
theorem dL_refused_204 : decode cL_refused 204 = .ok (.goto 4, 3) := by decide +kernel
theorem dL_refused_207 : decode cL_refused 207 = .ok (.iconst 0, 1) := by decide +kernel
theorem dL_refused_208 : decode cL_refused 208 = .ok (.istore 5, 2) := by decide +kernel
theorem dL_refused_210 : decode cL_refused 210 = .ok (.iload 5, 2) := by decide +kernel
theorem dL_refused_212 : decode cL_refused 212 = .ok (.ifCond .eq 17, 3) := by decide +kernel
theorem dL_refused_215 : decode cL_refused 215 = .ok (.aload_n 0, 1) := by decide +kernel
theorem dL_refused_216 : decode cL_refused 216 = .ok (.iload_n 1, 1) := by decide +kernel
theorem dL_refused_217 : decode cL_refused 217 = .ok (.invokestatic 143, 3) := by decide +kernel
theorem dL_refused_220 : decode cL_refused 220 = .ok (.lload_n 2, 1) := by decide +kernel
theorem dL_refused_221 : decode cL_refused 221 = .ok (.lcmp, 1) := by decide +kernel
theorem dL_refused_222 : decode cL_refused 222 = .ok (.ifCond .ne 7, 3) := by decide +kernel
theorem dL_refused_225 : decode cL_refused 225 = .ok (.iconst 1, 1) := by decide +kernel
theorem dL_refused_226 : decode cL_refused 226 = .ok (.goto 4, 3) := by decide +kernel
theorem dL_refused_229 : decode cL_refused 229 = .ok (.iconst 0, 1) := by decide +kernel
theorem dL_refused_230 : decode cL_refused 230 = .ok (.ireturn, 1) := by decide +kernel
