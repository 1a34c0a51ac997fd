set_option maxRecDepth 20000 in
theorem ggL_setDimension_X6_setDimension : GoodIn wsL_setDimension wsX6_setDimension := goodIn_ca (goodIn_r _ [6, 7, 8, 9, 10, 11, 12, 13, 14, 15, 16, 17, 18, 19, 20, 21, 22, 23, 24, 25, 26, 27, 28, 29, 30, 31, 32, 33, 34, 35, 36, 37, 38, 39, 40, 41, 42, 43, 44, 45, 46, 47, 48, 49, 50, 51, 52, 5, 53, 54, 55, 56, 57, 58, 59, 60, 61, 62, 63, 64, 65, 66, 67, 68, 69, 70, 71, 72, 73, 74, 75, 76, 77, 78, 79, 80, 81, 82, 83, 84, 85, 86, 87, 88, 89, 90, 91, 92, 93, 94, 95, 96, 97, 98, 99, 100, 101, 102, 103, 104, 105, 106, 107, 108, 109, 110, 111, 112, 113, 114, 115, 116, 117, 118, 119, 120, 121, 122, 123, 124] (by decide +kernel) (by decide +kernel)) (goodIn_sub (fun _ h => List.mem_cons_of_mem _ (List.mem_append_right _ h)) (by decide +kernel))
set_option maxRecDepth 20000 in
theorem gL_setDimension_X6_setDimension : GoodIn wsL_setDimension (wsV RL 7 RX6 yX6_setDimension wsX6_setDimension) := goodIn_app (goodIn_of _ (by decide +kernel)) ggL_setDimension_X6_setDimension
theorem dL_setDimension_0 : decode cL_setDimension 0 = .ok (.aload_n 2, 1) := by decide +kernel
theorem dL_setDimension_1 : decode cL_setDimension 1 = .ok (.iconst 0, 1) := by decide +kernel
theorem dL_setDimension_2 : decode cL_setDimension 2 = .ok (.aload_n 0, 1) := by decide +kernel
theorem dL_setDimension_3 : decode cL_setDimension 3 = .ok (.iload_n 1, 1) := by decide +kernel
theorem dL_setDimension_4 : decode cL_setDimension 4 = .ok (.invokevirtual 7, 3) := by decide +kernel
theorem dL_setDimension_7 : decode cL_setDimension 7 = .ok (.i2l, 1) := by decide +kernel
theorem dL_setDimension_8 : decode cL_setDimension 8 = .ok (.lastore, 1) := by decide +kernel
theorem dL_setDimension_9 : decode cL_setDimension 9 = .ok (.goto 6, 3) := by decide +kernel
theorem dL_setDimension_12 : decode cL_setDimension 12 = .ok (.astore_n 3, 1) := by decide +kernel
theorem dL_setDimension_13 : decode cL_setDimension 13 = .ok (.iconst 1, 1) := by decide +kernel
theorem dL_setDimension_14 : decode cL_setDimension 14 = .ok (.ireturn, 1) := by decide +kernel
theorem dL_setDimension_15 : decode cL_setDimension 15 = .ok (.iconst 0, 1) := by decide +kernel
theorem dL_setDimension_16 : decode cL_setDimension 16 = .ok (.ireturn, 1) := by decide +kernel
set_option maxRecDepth 20000 in
theorem ggL_kill_X6_kill : GoodIn wsL_kill wsX6_kill := goodIn_ca (goodIn_ca (goodIn_r _ [7, 8, 9, 10, 11, 12, 6, 13, 14, 15, 16, 17, 18, 19, 20, 21, 22, 23, 24, 25, 26, 27, 28, 29, 30, 31, 32, 33, 34, 35, 36, 37, 38, 39, 40, 41, 42, 43, 44, 45, 46, 47, 48, 49, 50, 51, 52, 53, 54, 55, 56, 57, 58, 59, 60, 61, 62, 63, 64, 65, 66, 67, 68, 69, 70, 71, 72, 73, 74, 75, 76, 77, 78, 79, 80, 81, 82, 83, 84, 85, 86, 87, 88, 89, 90, 91, 92, 93, 94, 95, 96, 97, 98, 99, 100, 101, 102, 103, 104, 105, 106, 107, 108, 109, 110, 111, 112, 113, 114, 115, 116, 117, 118, 119, 120, 121, 122, 123, 124, 125, 126, 127, 128, 129, 130, 131, 132, 133, 134, 135, 136, 137, 138, 139, 140] (by decide +kernel) (by decide +kernel)) (goodIn_sub (fun _ h => List.mem_cons_of_mem _ (List.mem_append_left _ (List.mem_append_right _ h))) (by decide +kernel))) (goodIn_sub (fun _ h => List.mem_cons_of_mem _ (List.mem_append_right _ h)) (by decide +kernel))
set_option maxRecDepth 20000 in
theorem gL_kill_X6_kill : GoodIn wsL_kill (wsV RL 15 RX6 yX6_kill wsX6_kill) := goodIn_app (goodIn_of _ (by decide +kernel)) ggL_kill_X6_kill
theorem dL_kill_0 : decode cL_kill 0 = .ok (.aload_n 2, 1) := by decide +kernel
theorem dL_kill_1 : decode cL_kill 1 = .ok (.iconst 0, 1) := by decide +kernel
theorem dL_kill_2 : decode cL_kill 2 = .ok (.aload_n 0, 1) := by decide +kernel
theorem dL_kill_3 : decode cL_kill 3 = .ok (.iload_n 1, 1) := by decide +kernel
theorem dL_kill_4 : decode cL_kill 4 = .ok (.invokevirtual 15, 3) := by decide +kernel
theorem dL_kill_7 : decode cL_kill 7 = .ok (.i2l, 1) := by decide +kernel
theorem dL_kill_8 : decode cL_kill 8 = .ok (.lastore, 1) := by decide +kernel
theorem dL_kill_9 : decode cL_kill 9 = .ok (.goto 9, 3) := by decide +kernel
theorem dL_kill_12 : decode cL_kill 12 = .ok (.astore_n 3, 1) := by decide +kernel
theorem dL_kill_13 : decode cL_kill 13 = .ok (.iconst 1, 1) := by decide +kernel
theorem dL_kill_14 : decode cL_kill 14 = .ok (.ireturn, 1) := by decide +kernel
theorem dL_kill_15 : decode cL_kill 15 = .ok (.astore_n 3, 1) := by decide +kernel
theorem dL_kill_16 : decode cL_kill 16 = .ok (.iconst 2, 1) := by decide +kernel
theorem dL_kill_17 : decode cL_kill 17 = .ok (.ireturn, 1) := by decide +kernel
theorem dL_kill_18 : decode cL_kill 18 = .ok (.iconst 0, 1) := by decide +kernel
theorem dL_kill_19 : decode cL_kill 19 = .ok (.ireturn, 1) := by decide +kernel
set_option maxRecDepth 20000 in
theorem ggL_revive_X6_revive : GoodIn wsL_revive wsX6_revive := goodIn_ca (goodIn_ca (goodIn_r _ [7, 8, 9, 10, 11, 12, 13, 14, 6, 15, 16, 17, 18, 19, 20, 21, 22, 23, 24, 25, 26, 27, 28, 29, 30, 31, 32, 33, 34, 35, 36, 37, 38, 39, 40, 41, 42, 43, 44, 45, 46, 47, 48, 49, 50, 51, 52, 53, 54, 55, 56, 57, 58, 59, 60, 61, 62, 63, 64, 65, 66, 67, 68, 69, 70, 71, 72, 73, 74, 75, 76, 77, 78, 79, 80, 81, 82, 83, 84, 85, 86, 87, 88, 89, 90, 91, 92, 93, 94, 95, 96, 97, 98, 99, 100, 101, 102, 103, 104, 105, 106, 107, 108, 109, 110, 111, 112, 113, 114, 115, 116, 117, 118, 119, 120, 121, 122, 123, 124, 125, 126, 127, 128, 129, 130, 131, 132, 133, 134, 135, 136, 137, 138] (by decide +kernel) (by decide +kernel)) (goodIn_sub (fun _ h => List.mem_cons_of_mem _ (List.mem_append_left _ (List.mem_append_right _ h))) (by decide +kernel))) (goodIn_sub (fun _ h => List.mem_cons_of_mem _ (List.mem_append_right _ h)) (by decide +kernel))
set_option maxRecDepth 20000 in
theorem gL_revive_X6_revive : GoodIn wsL_revive (wsV RL 20 RX6 yX6_revive wsX6_revive) := goodIn_app (goodIn_of _ (by decide +kernel)) ggL_revive_X6_revive
theorem dL_revive_0 : decode cL_revive 0 = .ok (.aload_n 2, 1) := by decide +kernel
theorem dL_revive_1 : decode cL_revive 1 = .ok (.iconst 0, 1) := by decide +kernel
theorem dL_revive_2 : decode cL_revive 2 = .ok (.aload_n 0, 1) := by decide +kernel
theorem dL_revive_3 : decode cL_revive 3 = .ok (.iload_n 1, 1) := by decide +kernel
theorem dL_revive_4 : decode cL_revive 4 = .ok (.invokevirtual 20, 3) := by decide +kernel
theorem dL_revive_7 : decode cL_revive 7 = .ok (.i2l, 1) := by decide +kernel
theorem dL_revive_8 : decode cL_revive 8 = .ok (.lastore, 1) := by decide +kernel
theorem dL_revive_9 : decode cL_revive 9 = .ok (.goto 9, 3) := by decide +kernel
theorem dL_revive_12 : decode cL_revive 12 = .ok (.astore_n 3, 1) := by decide +kernel
theorem dL_revive_13 : decode cL_revive 13 = .ok (.iconst 1, 1) := by decide +kernel
theorem dL_revive_14 : decode cL_revive 14 = .ok (.ireturn, 1) := by decide +kernel
theorem dL_revive_15 : decode cL_revive 15 = .ok (.astore_n 3, 1) := by decide +kernel
theorem dL_revive_16 : decode cL_revive 16 = .ok (.iconst 2, 1) := by decide +kernel
theorem dL_revive_17 : decode cL_revive 17 = .ok (.ireturn, 1) := by decide +kernel
theorem dL_revive_18 : decode cL_revive 18 = .ok (.iconst 0, 1) := by decide +kernel
theorem dL_revive_19 : decode cL_revive 19 = .ok (.ireturn, 1) := by decide +kernel
set_option maxRecDepth 20000 in
theorem ggL_isAlive_X6_isAlive : GoodIn wsL_isAlive wsX6_isAlive := goodIn_ca (goodIn_r _ [6, 7, 8, 9, 10, 5, 11, 12, 13, 14, 15, 16, 17, 18, 19, 20, 21, 22, 23, 24, 25, 26, 27, 28, 29, 30, 31, 32, 33, 34, 35] (by decide +kernel) (by decide +kernel)) (goodIn_sub (fun _ h => List.mem_cons_of_mem _ (List.mem_append_right _ h)) (by decide +kernel))
set_option maxRecDepth 20000 in
theorem gL_isAlive_X6_isAlive : GoodIn wsL_isAlive (wsV RL 23 RX6 yX6_isAlive wsX6_isAlive) := goodIn_app (goodIn_of _ (by decide +kernel)) ggL_isAlive_X6_isAlive
theorem dL_isAlive_0 : decode cL_isAlive 0 = .ok (.aload_n 2, 1) := by decide +kernel
theorem dL_isAlive_1 : decode cL_isAlive 1 = .ok (.iconst 0, 1) := by decide +kernel
theorem dL_isAlive_2 : decode cL_isAlive 2 = .ok (.aload_n 0, 1) := by decide +kernel
theorem dL_isAlive_3 : decode cL_isAlive 3 = .ok (.iload_n 1, 1) := by decide +kernel
theorem dL_isAlive_4 : decode cL_isAlive 4 = .ok (.invokevirtual 23, 3) := by decide +kernel
theorem dL_isAlive_7 : decode cL_isAlive 7 = .ok (.ifCond .eq 7, 3) := by decide +kernel
theorem dL_isAlive_10 : decode cL_isAlive 10 = .ok (.lconst 1, 1) := by decide +kernel
theorem dL_isAlive_11 : decode cL_isAlive 11 = .ok (.goto 4, 3) := by decide +kernel
theorem dL_isAlive_14 : decode cL_isAlive 14 = .ok (.lconst 0, 1) := by decide +kernel
theorem dL_isAlive_15 : decode cL_isAlive 15 = .ok (.lastore, 1) := by decide +kernel
theorem dL_isAlive_16 : decode cL_isAlive 16 = .ok (.goto 6, 3) := by decide +kernel
theorem dL_isAlive_19 : decode cL_isAlive 19 = .ok (.astore_n 3, 1) := by decide +kernel
theorem dL_isAlive_20 : decode cL_isAlive 20 = .ok (.iconst 1, 1) := by decide +kernel
theorem dL_isAlive_21 : decode cL_isAlive 21 = .ok (.ireturn, 1) := by decide +kernel
theorem dL_isAlive_22 : decode cL_isAlive 22 = .ok (.iconst 0, 1) := by decide +kernel
theorem dL_isAlive_23 : decode cL_isAlive 23 = .ok (.ireturn, 1) := by decide +kernel
set_option maxRecDepth 20000 in
theorem ggL_distance_X6_distance : GoodIn wsL_distance wsX6_distance := goodIn_ca (goodIn_r _ [6, 7, 8, 9, 5, 10, 11, 12, 13, 14, 15, 16, 17, 18, 19, 20, 21, 22, 23, 24, 25, 26, 27, 28, 29, 30, 31, 32, 33, 34, 35, 36, 37, 38, 39] (by decide +kernel) (by decide +kernel)) (goodIn_sub (fun _ h => List.mem_cons_of_mem _ (List.mem_append_right _ h)) (by decide +kernel))
set_option maxRecDepth 20000 in
theorem gL_distance_X6_distance : GoodIn wsL_distance (wsV RL 27 RX6 yX6_distance wsX6_distance) := goodIn_app (goodIn_of _ (by decide +kernel)) ggL_distance_X6_distance
theorem dL_distance_0 : decode cL_distance 0 = .ok (.aload_n 3, 1) := by decide +kernel
theorem dL_distance_1 : decode cL_distance 1 = .ok (.iconst 0, 1) := by decide +kernel
theorem dL_distance_2 : decode cL_distance 2 = .ok (.aload_n 0, 1) := by decide +kernel
theorem dL_distance_3 : decode cL_distance 3 = .ok (.iload_n 1, 1) := by decide +kernel
theorem dL_distance_4 : decode cL_distance 4 = .ok (.iload_n 2, 1) := by decide +kernel
theorem dL_distance_5 : decode cL_distance 5 = .ok (.invokevirtual 27, 3) := by decide +kernel
theorem dL_distance_8 : decode cL_distance 8 = .ok (.i2l, 1) := by decide +kernel
theorem dL_distance_9 : decode cL_distance 9 = .ok (.lastore, 1) := by decide +kernel
theorem dL_distance_10 : decode cL_distance 10 = .ok (.goto 7, 3) := by decide +kernel
theorem dL_distance_13 : decode cL_distance 13 = .ok (.astore 4, 2) := by decide +kernel
theorem dL_distance_15 : decode cL_distance 15 = .ok (.iconst 1, 1) := by decide +kernel
theorem dL_distance_16 : decode cL_distance 16 = .ok (.ireturn, 1) := by decide +kernel
theorem dL_distance_17 : decode cL_distance 17 = .ok (.iconst 0, 1) := by decide +kernel
theorem dL_distance_18 : decode cL_distance 18 = .ok (.ireturn, 1) := by decide +kernel
set_option maxRecDepth 20000 in
theorem ggL_shortest_X6_shortest : GoodIn wsL_shortest wsX6_shortest := goodIn_ca (goodIn_ca (goodIn_r _ [7, 8, 9, 10, 11, 6, 12, 13, 14, 15, 16, 17, 18, 19, 20, 21, 22, 23, 24, 25, 26, 27, 28, 29, 30, 31, 32, 33, 34, 35, 36, 37, 38, 39, 40, 41, 42, 43, 44, 45, 46, 47, 48, 49, 50, 51, 52, 53] (by decide +kernel) (by decide +kernel)) (goodIn_sub (fun _ h => List.mem_cons_of_mem _ (List.mem_append_left _ (List.mem_append_right _ h))) (by decide +kernel))) (goodIn_sub (fun _ h => List.mem_cons_of_mem _ (List.mem_append_right _ h)) (by decide +kernel))
set_option maxRecDepth 20000 in
theorem gL_shortest_X6_shortest : GoodIn wsL_shortest (wsV RL 31 RX6 yX6_shortest wsX6_shortest) := goodIn_app (goodIn_of _ (by decide +kernel)) ggL_shortest_X6_shortest
theorem dL_shortest_0 : decode cL_shortest 0 = .ok (.aload_n 3, 1) := by decide +kernel
theorem dL_shortest_1 : decode cL_shortest 1 = .ok (.iconst 0, 1) := by decide +kernel
theorem dL_shortest_2 : decode cL_shortest 2 = .ok (.aload_n 0, 1) := by decide +kernel
theorem dL_shortest_3 : decode cL_shortest 3 = .ok (.iload_n 1, 1) := by decide +kernel
theorem dL_shortest_4 : decode cL_shortest 4 = .ok (.iload_n 2, 1) := by decide +kernel
theorem dL_shortest_5 : decode cL_shortest 5 = .ok (.invokevirtual 31, 3) := by decide +kernel
theorem dL_shortest_8 : decode cL_shortest 8 = .ok (.i2l, 1) := by decide +kernel
theorem dL_shortest_9 : decode cL_shortest 9 = .ok (.lastore, 1) := by decide +kernel
theorem dL_shortest_10 : decode cL_shortest 10 = .ok (.goto 11, 3) := by decide +kernel
theorem dL_shortest_13 : decode cL_shortest 13 = .ok (.astore 4, 2) := by decide +kernel
theorem dL_shortest_15 : decode cL_shortest 15 = .ok (.iconst 1, 1) := by decide +kernel
theorem dL_shortest_16 : decode cL_shortest 16 = .ok (.ireturn, 1) := by decide +kernel
theorem dL_shortest_17 : decode cL_shortest 17 = .ok (.astore 4, 2) := by decide +kernel
theorem dL_shortest_19 : decode cL_shortest 19 = .ok (.iconst 2, 1) := by decide +kernel
theorem dL_shortest_20 : decode cL_shortest 20 = .ok (.ireturn, 1) := by decide +kernel
theorem dL_shortest_21 : decode cL_shortest 21 = .ok (.iconst 0, 1) := by decide +kernel
theorem dL_shortest_22 : decode cL_shortest 22 = .ok (.ireturn, 1) := by decide +kernel
set_option maxRecDepth 20000 in
theorem ggL_level_X6_level : GoodIn wsL_level wsX6_level := goodIn_ca (goodIn_r _ [6, 7, 8, 9, 10, 5, 11, 12, 13, 14, 15, 16, 17, 18, 19, 20, 21, 22, 23, 24, 25, 26, 27, 28, 29, 30, 31, 32, 33, 34, 35, 36, 37, 38, 39, 40, 41, 42, 43, 44, 45, 46] (by decide +kernel) (by decide +kernel)) (goodIn_sub (fun _ h => List.mem_cons_of_mem _ (List.mem_append_right _ h)) (by decide +kernel))
set_option maxRecDepth 20000 in
theorem gL_level_X6_level : GoodIn wsL_level (wsV RL 34 RX6 yX6_level wsX6_level) := goodIn_app (goodIn_of _ (by decide +kernel)) ggL_level_X6_level
theorem dL_level_0 : decode cL_level 0 = .ok (.aload_n 2, 1) := by decide +kernel
theorem dL_level_1 : decode cL_level 1 = .ok (.iconst 0, 1) := by decide +kernel
theorem dL_level_2 : decode cL_level 2 = .ok (.aload_n 0, 1) := by decide +kernel
theorem dL_level_3 : decode cL_level 3 = .ok (.iload_n 1, 1) := by decide +kernel
theorem dL_level_4 : decode cL_level 4 = .ok (.invokevirtual 34, 3) := by decide +kernel
theorem dL_level_7 : decode cL_level 7 = .ok (.i2l, 1) := by decide +kernel
theorem dL_level_8 : decode cL_level 8 = .ok (.lastore, 1) := by decide +kernel
theorem dL_level_9 : decode cL_level 9 = .ok (.goto 6, 3) := by decide +kernel
theorem dL_level_12 : decode cL_level 12 = .ok (.astore_n 3, 1) := by decide +kernel
theorem dL_level_13 : decode cL_level 13 = .ok (.iconst 1, 1) := by decide +kernel
theorem dL_level_14 : decode cL_level 14 = .ok (.ireturn, 1) := by decide +kernel
theorem dL_level_15 : decode cL_level 15 = .ok (.iconst 0, 1) := by decide +kernel
theorem dL_level_16 : decode cL_level 16 = .ok (.ireturn, 1) := by decide +kernel
set_option maxRecDepth 20000 in
theorem ggL_vectorBit_X6_vectorBit : GoodIn wsL_vectorBit wsX6_vectorBit := goodIn_ca (goodIn_r _ [6, 7, 8, 9, 10, 11, 12, 13, 5, 14, 15, 16, 17, 18, 19, 20, 21, 22, 23, 24, 25, 26, 27, 28, 29, 30, 31, 32, 33, 34, 35, 36, 37, 38, 39, 40, 41, 42, 43, 44, 45, 46] (by decide +kernel) (by decide +kernel)) (goodIn_sub (fun _ h => List.mem_cons_of_mem _ (List.mem_append_right _ h)) (by decide +kernel))
set_option maxRecDepth 20000 in
theorem gL_vectorBit_X6_vectorBit : GoodIn wsL_vectorBit (wsV RL 37 RX6 yX6_vectorBit wsX6_vectorBit) := goodIn_app (goodIn_of _ (by decide +kernel)) ggL_vectorBit_X6_vectorBit
theorem dL_vectorBit_0 : decode cL_vectorBit 0 = .ok (.aload_n 3, 1) := by decide +kernel
theorem dL_vectorBit_1 : decode cL_vectorBit 1 = .ok (.iconst 0, 1) := by decide +kernel
theorem dL_vectorBit_2 : decode cL_vectorBit 2 = .ok (.aload_n 0, 1) := by decide +kernel
theorem dL_vectorBit_3 : decode cL_vectorBit 3 = .ok (.iload_n 1, 1) := by decide +kernel
theorem dL_vectorBit_4 : decode cL_vectorBit 4 = .ok (.iload_n 2, 1) := by decide +kernel
theorem dL_vectorBit_5 : decode cL_vectorBit 5 = .ok (.invokevirtual 37, 3) := by decide +kernel
theorem dL_vectorBit_8 : decode cL_vectorBit 8 = .ok (.i2l, 1) := by decide +kernel
theorem dL_vectorBit_9 : decode cL_vectorBit 9 = .ok (.lastore, 1) := by decide +kernel
theorem dL_vectorBit_10 : decode cL_vectorBit 10 = .ok (.goto 7, 3) := by decide +kernel
theorem dL_vectorBit_13 : decode cL_vectorBit 13 = .ok (.astore 4, 2) := by decide +kernel
theorem dL_vectorBit_15 : decode cL_vectorBit 15 = .ok (.iconst 1, 1) := by decide +kernel
theorem dL_vectorBit_16 : decode cL_vectorBit 16 = .ok (.ireturn, 1) := by decide +kernel
theorem dL_vectorBit_17 : decode cL_vectorBit 17 = .ok (.iconst 0, 1) := by decide +kernel
theorem dL_vectorBit_18 : decode cL_vectorBit 18 = .ok (.ireturn, 1) := by decide +kernel
set_option maxRecDepth 20000 in
theorem ggL_decide_X6_decide : GoodIn wsL_decide wsX6_decide := goodIn_ca (goodIn_ca (goodIn_r _ [7, 8, 9, 10, 6, 11, 12, 13, 14, 15, 16, 17, 18, 19, 20, 21, 22, 23, 24, 25, 26, 27, 28, 29, 30, 31, 32, 33, 34, 35, 36, 37, 38, 39, 40, 41, 42, 43, 44, 45, 46, 47, 48, 49, 50, 51, 52, 53, 54, 55, 56, 57, 58, 59, 60, 61, 62, 63, 64, 65, 66, 67, 68, 69, 70, 71, 72, 73, 74, 75, 76, 77, 78, 79, 80, 81, 82, 83, 84, 85, 86, 87, 88, 89] (by decide +kernel) (by decide +kernel)) (goodIn_sub (fun _ h => List.mem_cons_of_mem _ (List.mem_append_left _ (List.mem_append_right _ h))) (by decide +kernel))) (goodIn_sub (fun _ h => List.mem_cons_of_mem _ (List.mem_append_right _ h)) (by decide +kernel))
set_option maxRecDepth 20000 in
theorem gL_decide_X6_decide : GoodIn wsL_decide (wsV RL 40 RX6 yX6_decide wsX6_decide) := goodIn_app (goodIn_of _ (by decide +kernel)) ggL_decide_X6_decide
theorem dL_decide_0 : decode cL_decide 0 = .ok (.aload_n 3, 1) := by decide +kernel
theorem dL_decide_1 : decode cL_decide 1 = .ok (.iconst 0, 1) := by decide +kernel
theorem dL_decide_2 : decode cL_decide 2 = .ok (.aload_n 0, 1) := by decide +kernel
theorem dL_decide_3 : decode cL_decide 3 = .ok (.iload_n 1, 1) := by decide +kernel
theorem dL_decide_4 : decode cL_decide 4 = .ok (.iload_n 2, 1) := by decide +kernel
theorem dL_decide_5 : decode cL_decide 5 = .ok (.invokevirtual 40, 3) := by decide +kernel
theorem dL_decide_8 : decode cL_decide 8 = .ok (.i2l, 1) := by decide +kernel
theorem dL_decide_9 : decode cL_decide 9 = .ok (.lastore, 1) := by decide +kernel
theorem dL_decide_10 : decode cL_decide 10 = .ok (.goto 11, 3) := by decide +kernel
theorem dL_decide_13 : decode cL_decide 13 = .ok (.astore 4, 2) := by decide +kernel
theorem dL_decide_15 : decode cL_decide 15 = .ok (.iconst 1, 1) := by decide +kernel
theorem dL_decide_16 : decode cL_decide 16 = .ok (.ireturn, 1) := by decide +kernel
theorem dL_decide_17 : decode cL_decide 17 = .ok (.astore 4, 2) := by decide +kernel
theorem dL_decide_19 : decode cL_decide 19 = .ok (.iconst 2, 1) := by decide +kernel
theorem dL_decide_20 : decode cL_decide 20 = .ok (.ireturn, 1) := by decide +kernel
theorem dL_decide_21 : decode cL_decide 21 = .ok (.iconst 0, 1) := by decide +kernel
theorem dL_decide_22 : decode cL_decide 22 = .ok (.ireturn, 1) := by decide +kernel
set_option maxRecDepth 20000 in
theorem ggL_routeLength_X6_routeLength : GoodIn wsL_routeLength wsX6_routeLength := goodIn_ca (goodIn_ca (goodIn_r _ [7, 8, 9, 10, 6, 11, 12, 13, 14, 15, 16, 17, 18, 19, 20, 21, 22, 23, 24, 25, 26, 27, 28, 29, 30, 31, 32, 33, 34, 35, 36, 37, 38, 39, 40, 41, 42, 43, 44, 45, 46, 47, 48, 49, 50, 51, 52, 53, 54, 55, 56, 57, 58, 59, 60, 61, 62, 63, 64, 65, 66, 67, 68, 69, 70, 71, 72, 73, 74, 75, 76, 77, 78, 79, 80, 81, 82, 83, 84, 85, 86, 87, 88, 89, 90, 91, 92, 93] (by decide +kernel) (by decide +kernel)) (goodIn_sub (fun _ h => List.mem_cons_of_mem _ (List.mem_append_left _ (List.mem_append_right _ h))) (by decide +kernel))) (goodIn_sub (fun _ h => List.mem_cons_of_mem _ (List.mem_append_right _ h)) (by decide +kernel))
set_option maxRecDepth 20000 in
theorem gL_routeLength_X6_routeLength : GoodIn wsL_routeLength (wsV RL 43 RX6 yX6_routeLength wsX6_routeLength) := goodIn_app (goodIn_of _ (by decide +kernel)) ggL_routeLength_X6_routeLength
theorem dL_routeLength_0 : decode cL_routeLength 0 = .ok (.aload_n 3, 1) := by decide +kernel
theorem dL_routeLength_1 : decode cL_routeLength 1 = .ok (.iconst 0, 1) := by decide +kernel
theorem dL_routeLength_2 : decode cL_routeLength 2 = .ok (.aload_n 0, 1) := by decide +kernel
theorem dL_routeLength_3 : decode cL_routeLength 3 = .ok (.iload_n 1, 1) := by decide +kernel
theorem dL_routeLength_4 : decode cL_routeLength 4 = .ok (.iload_n 2, 1) := by decide +kernel
theorem dL_routeLength_5 : decode cL_routeLength 5 = .ok (.invokevirtual 43, 3) := by decide +kernel
theorem dL_routeLength_8 : decode cL_routeLength 8 = .ok (.i2l, 1) := by decide +kernel
theorem dL_routeLength_9 : decode cL_routeLength 9 = .ok (.lastore, 1) := by decide +kernel
theorem dL_routeLength_10 : decode cL_routeLength 10 = .ok (.goto 11, 3) := by decide +kernel
theorem dL_routeLength_13 : decode cL_routeLength 13 = .ok (.astore 4, 2) := by decide +kernel
theorem dL_routeLength_15 : decode cL_routeLength 15 = .ok (.iconst 1, 1) := by decide +kernel
theorem dL_routeLength_16 : decode cL_routeLength 16 = .ok (.ireturn, 1) := by decide +kernel
theorem dL_routeLength_17 : decode cL_routeLength 17 = .ok (.astore 4, 2) := by decide +kernel
theorem dL_routeLength_19 : decode cL_routeLength 19 = .ok (.iconst 2, 1) := by decide +kernel
theorem dL_routeLength_20 : decode cL_routeLength 20 = .ok (.ireturn, 1) := by decide +kernel
theorem dL_routeLength_21 : decode cL_routeLength 21 = .ok (.iconst 0, 1) := by decide +kernel
theorem dL_routeLength_22 : decode cL_routeLength 22 = .ok (.ireturn, 1) := by decide +kernel
set_option maxRecDepth 20000 in
theorem ggL_routeNode_X6_routeNode : GoodIn wsL_routeNode wsX6_routeNode := goodIn_ca (goodIn_ca (goodIn_r _ [7, 8, 9, 10, 11, 12, 6, 13, 14, 15, 16, 17, 18, 19, 20, 21, 22, 23, 24, 25, 26, 27, 28, 29, 30, 31, 32, 33, 34, 35, 36, 37, 38, 39, 40, 41, 42, 43, 44, 45, 46, 47, 48, 49, 50, 51, 52, 53, 54, 55, 56, 57, 58, 59, 60, 61, 62, 63, 64, 65, 66, 67, 68, 69, 70, 71, 72, 73, 74, 75, 76, 77, 78, 79, 80, 81, 82, 83, 84, 85, 86, 87, 88, 89, 90, 91, 92, 93, 94, 95] (by decide +kernel) (by decide +kernel)) (goodIn_sub (fun _ h => List.mem_cons_of_mem _ (List.mem_append_left _ (List.mem_append_right _ h))) (by decide +kernel))) (goodIn_sub (fun _ h => List.mem_cons_of_mem _ (List.mem_append_right _ h)) (by decide +kernel))
set_option maxRecDepth 20000 in
theorem gL_routeNode_X6_routeNode : GoodIn wsL_routeNode (wsV RL 46 RX6 yX6_routeNode wsX6_routeNode) := goodIn_app (goodIn_of _ (by decide +kernel)) ggL_routeNode_X6_routeNode
theorem dL_routeNode_0 : decode cL_routeNode 0 = .ok (.aload 4, 2) := by decide +kernel
theorem dL_routeNode_2 : decode cL_routeNode 2 = .ok (.iconst 0, 1) := by decide +kernel
theorem dL_routeNode_3 : decode cL_routeNode 3 = .ok (.aload_n 0, 1) := by decide +kernel
theorem dL_routeNode_4 : decode cL_routeNode 4 = .ok (.iload_n 1, 1) := by decide +kernel
theorem dL_routeNode_5 : decode cL_routeNode 5 = .ok (.iload_n 2, 1) := by decide +kernel
theorem dL_routeNode_6 : decode cL_routeNode 6 = .ok (.iload_n 3, 1) := by decide +kernel
theorem dL_routeNode_7 : decode cL_routeNode 7 = .ok (.invokevirtual 46, 3) := by decide +kernel
theorem dL_routeNode_10 : decode cL_routeNode 10 = .ok (.i2l, 1) := by decide +kernel
theorem dL_routeNode_11 : decode cL_routeNode 11 = .ok (.lastore, 1) := by decide +kernel
theorem dL_routeNode_12 : decode cL_routeNode 12 = .ok (.goto 11, 3) := by decide +kernel
theorem dL_routeNode_15 : decode cL_routeNode 15 = .ok (.astore 5, 2) := by decide +kernel
theorem dL_routeNode_17 : decode cL_routeNode 17 = .ok (.iconst 1, 1) := by decide +kernel
theorem dL_routeNode_18 : decode cL_routeNode 18 = .ok (.ireturn, 1) := by decide +kernel
theorem dL_routeNode_19 : decode cL_routeNode 19 = .ok (.astore 5, 2) := by decide +kernel
theorem dL_routeNode_21 : decode cL_routeNode 21 = .ok (.iconst 2, 1) := by decide +kernel
theorem dL_routeNode_22 : decode cL_routeNode 22 = .ok (.ireturn, 1) := by decide +kernel
theorem dL_routeNode_23 : decode cL_routeNode 23 = .ok (.iconst 0, 1) := by decide +kernel
theorem dL_routeNode_24 : decode cL_routeNode 24 = .ok (.ireturn, 1) := by decide +kernel
set_option maxRecDepth 20000 in
theorem ggL_reach_X6_reach : GoodIn wsL_reach wsX6_reach := goodIn_ca (goodIn_ca (goodIn_r _ [7, 8, 9, 10, 11, 12, 13, 6, 14, 15, 16, 17, 18, 19, 20, 21, 22, 23, 24, 25, 26, 27, 28, 29, 30, 31, 32, 33, 34, 35, 36, 37, 38, 39, 40, 41, 42, 43, 44, 45, 46, 47, 48, 49, 50, 51, 52, 53, 54, 55, 56, 57, 58, 59, 60, 61, 62, 63, 64, 65, 66, 67, 68, 69, 70, 71, 72, 73, 74, 75, 76, 77, 78, 79, 80, 81, 82, 83, 84, 85] (by decide +kernel) (by decide +kernel)) (goodIn_sub (fun _ h => List.mem_cons_of_mem _ (List.mem_append_left _ (List.mem_append_right _ h))) (by decide +kernel))) (goodIn_sub (fun _ h => List.mem_cons_of_mem _ (List.mem_append_right _ h)) (by decide +kernel))
set_option maxRecDepth 20000 in
theorem gL_reach_X6_reach : GoodIn wsL_reach (wsV RL 50 RX6 yX6_reach wsX6_reach) := goodIn_app (goodIn_of _ (by decide +kernel)) ggL_reach_X6_reach
theorem dL_reach_0 : decode cL_reach 0 = .ok (.aload_n 3, 1) := by decide +kernel
theorem dL_reach_1 : decode cL_reach 1 = .ok (.iconst 0, 1) := by decide +kernel
theorem dL_reach_2 : decode cL_reach 2 = .ok (.aload_n 0, 1) := by decide +kernel
theorem dL_reach_3 : decode cL_reach 3 = .ok (.iload_n 1, 1) := by decide +kernel
theorem dL_reach_4 : decode cL_reach 4 = .ok (.iload_n 2, 1) := by decide +kernel
theorem dL_reach_5 : decode cL_reach 5 = .ok (.invokevirtual 50, 3) := by decide +kernel
theorem dL_reach_8 : decode cL_reach 8 = .ok (.i2l, 1) := by decide +kernel
theorem dL_reach_9 : decode cL_reach 9 = .ok (.lastore, 1) := by decide +kernel
theorem dL_reach_10 : decode cL_reach 10 = .ok (.goto 11, 3) := by decide +kernel
theorem dL_reach_13 : decode cL_reach 13 = .ok (.astore 4, 2) := by decide +kernel
theorem dL_reach_15 : decode cL_reach 15 = .ok (.iconst 1, 1) := by decide +kernel
theorem dL_reach_16 : decode cL_reach 16 = .ok (.ireturn, 1) := by decide +kernel
theorem dL_reach_17 : decode cL_reach 17 = .ok (.astore 4, 2) := by decide +kernel
theorem dL_reach_19 : decode cL_reach 19 = .ok (.iconst 2, 1) := by decide +kernel
theorem dL_reach_20 : decode cL_reach 20 = .ok (.ireturn, 1) := by decide +kernel
theorem dL_reach_21 : decode cL_reach 21 = .ok (.iconst 0, 1) := by decide +kernel
theorem dL_reach_22 : decode cL_reach 22 = .ok (.ireturn, 1) := by decide +kernel
set_option maxRecDepth 20000 in
theorem ggL_broadcastTime_X6_broadcastTime : GoodIn wsL_broadcastTime wsX6_broadcastTime := goodIn_ca (goodIn_ca (goodIn_r _ [7, 8, 9, 10, 11, 12, 13, 6, 14, 15, 16, 17, 18, 19, 20, 21, 22, 23, 24, 25, 26, 27, 28, 29, 30, 31, 32, 33, 34, 35, 36, 37, 38, 39, 40, 41, 42, 43, 44, 45, 46, 47, 48, 49, 50, 51, 52, 53, 54, 55, 56, 57, 58, 59, 60, 61, 62, 63, 64, 65, 66, 67, 68, 69, 70, 71, 72, 73, 74, 75, 76, 77, 78, 79, 80, 81, 82, 83, 84, 85, 86, 87, 88, 89, 90, 91, 92, 93, 94, 95, 96, 97, 98, 99, 100, 101, 102] (by decide +kernel) (by decide +kernel)) (goodIn_sub (fun _ h => List.mem_cons_of_mem _ (List.mem_append_left _ (List.mem_append_right _ h))) (by decide +kernel))) (goodIn_sub (fun _ h => List.mem_cons_of_mem _ (List.mem_append_right _ h)) (by decide +kernel))
set_option maxRecDepth 20000 in
theorem gL_broadcastTime_X6_broadcastTime : GoodIn wsL_broadcastTime (wsV RL 53 RX6 yX6_broadcastTime wsX6_broadcastTime) := goodIn_app (goodIn_of _ (by decide +kernel)) ggL_broadcastTime_X6_broadcastTime
theorem dL_broadcastTime_0 : decode cL_broadcastTime 0 = .ok (.aload_n 3, 1) := by decide +kernel
theorem dL_broadcastTime_1 : decode cL_broadcastTime 1 = .ok (.iconst 0, 1) := by decide +kernel
theorem dL_broadcastTime_2 : decode cL_broadcastTime 2 = .ok (.aload_n 0, 1) := by decide +kernel
theorem dL_broadcastTime_3 : decode cL_broadcastTime 3 = .ok (.iload_n 1, 1) := by decide +kernel
theorem dL_broadcastTime_4 : decode cL_broadcastTime 4 = .ok (.iload_n 2, 1) := by decide +kernel
theorem dL_broadcastTime_5 : decode cL_broadcastTime 5 = .ok (.invokevirtual 53, 3) := by decide +kernel
theorem dL_broadcastTime_8 : decode cL_broadcastTime 8 = .ok (.i2l, 1) := by decide +kernel
theorem dL_broadcastTime_9 : decode cL_broadcastTime 9 = .ok (.lastore, 1) := by decide +kernel
theorem dL_broadcastTime_10 : decode cL_broadcastTime 10 = .ok (.goto 11, 3) := by decide +kernel
theorem dL_broadcastTime_13 : decode cL_broadcastTime 13 = .ok (.astore 4, 2) := by decide +kernel
theorem dL_broadcastTime_15 : decode cL_broadcastTime 15 = .ok (.iconst 1, 1) := by decide +kernel
theorem dL_broadcastTime_16 : decode cL_broadcastTime 16 = .ok (.ireturn, 1) := by decide +kernel
theorem dL_broadcastTime_17 : decode cL_broadcastTime 17 = .ok (.astore 4, 2) := by decide +kernel
theorem dL_broadcastTime_19 : decode cL_broadcastTime 19 = .ok (.iconst 2, 1) := by decide +kernel
theorem dL_broadcastTime_20 : decode cL_broadcastTime 20 = .ok (.ireturn, 1) := by decide +kernel
theorem dL_broadcastTime_21 : decode cL_broadcastTime 21 = .ok (.iconst 0, 1) := by decide +kernel
theorem dL_broadcastTime_22 : decode cL_broadcastTime 22 = .ok (.ireturn, 1) := by decide +kernel
set_option maxRecDepth 20000 in
theorem ggL_broadcastSize_X6_broadcastSize : GoodIn wsL_broadcastSize wsX6_broadcastSize := goodIn_ca (goodIn_ca (goodIn_r _ [7, 8, 9, 10, 11, 12, 13, 6, 14, 15, 16, 17, 18, 19, 20, 21, 22, 23, 24, 25, 26, 27, 28, 29, 30, 31, 32, 33, 34, 35, 36, 37, 38, 39, 40, 41, 42, 43, 44, 45, 46, 47, 48, 49, 50, 51, 52, 53, 54, 55, 56, 57, 58, 59, 60, 61, 62, 63, 64, 65, 66, 67, 68, 69, 70, 71, 72, 73, 74, 75, 76, 77, 78, 79, 80, 81, 82, 83, 84, 85, 86, 87, 88, 89, 90, 91, 92, 93, 94, 95, 96, 97, 98, 99, 100, 101] (by decide +kernel) (by decide +kernel)) (goodIn_sub (fun _ h => List.mem_cons_of_mem _ (List.mem_append_left _ (List.mem_append_right _ h))) (by decide +kernel))) (goodIn_sub (fun _ h => List.mem_cons_of_mem _ (List.mem_append_right _ h)) (by decide +kernel))
set_option maxRecDepth 20000 in
theorem gL_broadcastSize_X6_broadcastSize : GoodIn wsL_broadcastSize (wsV RL 56 RX6 yX6_broadcastSize wsX6_broadcastSize) := goodIn_app (goodIn_of _ (by decide +kernel)) ggL_broadcastSize_X6_broadcastSize
theorem dL_broadcastSize_0 : decode cL_broadcastSize 0 = .ok (.aload_n 2, 1) := by decide +kernel
theorem dL_broadcastSize_1 : decode cL_broadcastSize 1 = .ok (.iconst 0, 1) := by decide +kernel
theorem dL_broadcastSize_2 : decode cL_broadcastSize 2 = .ok (.aload_n 0, 1) := by decide +kernel
theorem dL_broadcastSize_3 : decode cL_broadcastSize 3 = .ok (.iload_n 1, 1) := by decide +kernel
theorem dL_broadcastSize_4 : decode cL_broadcastSize 4 = .ok (.invokevirtual 56, 3) := by decide +kernel
theorem dL_broadcastSize_7 : decode cL_broadcastSize 7 = .ok (.i2l, 1) := by decide +kernel
theorem dL_broadcastSize_8 : decode cL_broadcastSize 8 = .ok (.lastore, 1) := by decide +kernel
theorem dL_broadcastSize_9 : decode cL_broadcastSize 9 = .ok (.goto 9, 3) := by decide +kernel
theorem dL_broadcastSize_12 : decode cL_broadcastSize 12 = .ok (.astore_n 3, 1) := by decide +kernel
theorem dL_broadcastSize_13 : decode cL_broadcastSize 13 = .ok (.iconst 1, 1) := by decide +kernel
theorem dL_broadcastSize_14 : decode cL_broadcastSize 14 = .ok (.ireturn, 1) := by decide +kernel
theorem dL_broadcastSize_15 : decode cL_broadcastSize 15 = .ok (.astore_n 3, 1) := by decide +kernel
theorem dL_broadcastSize_16 : decode cL_broadcastSize 16 = .ok (.iconst 2, 1) := by decide +kernel
theorem dL_broadcastSize_17 : decode cL_broadcastSize 17 = .ok (.ireturn, 1) := by decide +kernel
theorem dL_broadcastSize_18 : decode cL_broadcastSize 18 = .ok (.iconst 0, 1) := by decide +kernel
theorem dL_broadcastSize_19 : decode cL_broadcastSize 19 = .ok (.ireturn, 1) := by decide +kernel
set_option maxRecDepth 20000 in
theorem ggL_freeSubcubes_X6_freeSubcubes : GoodIn wsL_freeSubcubes wsX6_freeSubcubes := goodIn_ca (goodIn_r _ [6, 7, 8, 9, 10, 11, 12, 5, 13, 14, 15, 16, 17, 18, 19, 20, 21, 22, 23, 24, 25, 26, 27, 28, 29, 30, 31, 32, 33, 34, 35, 36, 37, 38, 39, 40, 41, 42, 43, 44, 45, 46, 47, 48, 49, 50, 51, 52, 53] (by decide +kernel) (by decide +kernel)) (goodIn_sub (fun _ h => List.mem_cons_of_mem _ (List.mem_append_right _ h)) (by decide +kernel))
set_option maxRecDepth 20000 in
theorem gL_freeSubcubes_X6_freeSubcubes : GoodIn wsL_freeSubcubes (wsV RL 59 RX6 yX6_freeSubcubes wsX6_freeSubcubes) := goodIn_app (goodIn_of _ (by decide +kernel)) ggL_freeSubcubes_X6_freeSubcubes
theorem dL_freeSubcubes_0 : decode cL_freeSubcubes 0 = .ok (.aload_n 2, 1) := by decide +kernel
theorem dL_freeSubcubes_1 : decode cL_freeSubcubes 1 = .ok (.iconst 0, 1) := by decide +kernel
theorem dL_freeSubcubes_2 : decode cL_freeSubcubes 2 = .ok (.aload_n 0, 1) := by decide +kernel
theorem dL_freeSubcubes_3 : decode cL_freeSubcubes 3 = .ok (.iload_n 1, 1) := by decide +kernel
theorem dL_freeSubcubes_4 : decode cL_freeSubcubes 4 = .ok (.invokevirtual 59, 3) := by decide +kernel
theorem dL_freeSubcubes_7 : decode cL_freeSubcubes 7 = .ok (.i2l, 1) := by decide +kernel
theorem dL_freeSubcubes_8 : decode cL_freeSubcubes 8 = .ok (.lastore, 1) := by decide +kernel
theorem dL_freeSubcubes_9 : decode cL_freeSubcubes 9 = .ok (.goto 6, 3) := by decide +kernel
theorem dL_freeSubcubes_12 : decode cL_freeSubcubes 12 = .ok (.astore_n 3, 1) := by decide +kernel
theorem dL_freeSubcubes_13 : decode cL_freeSubcubes 13 = .ok (.iconst 1, 1) := by decide +kernel
theorem dL_freeSubcubes_14 : decode cL_freeSubcubes 14 = .ok (.ireturn, 1) := by decide +kernel
theorem dL_freeSubcubes_15 : decode cL_freeSubcubes 15 = .ok (.iconst 0, 1) := by decide +kernel
theorem dL_freeSubcubes_16 : decode cL_freeSubcubes 16 = .ok (.ireturn, 1) := by decide +kernel
set_option maxRecDepth 20000 in
theorem ggL_disjointPaths_X6_disjointPaths : GoodIn wsL_disjointPaths wsX6_disjointPaths := goodIn_ca (goodIn_ca (goodIn_r _ [7, 8, 9, 10, 11, 12, 13, 14, 6, 15, 16, 17, 18, 19, 20, 21, 22, 23, 24, 25, 26, 27, 28, 29, 30, 31, 32, 33, 34, 35, 36, 37, 38, 39, 40, 41, 42, 43, 44, 45, 46, 47, 48, 49, 50, 51, 52, 53, 54, 55, 56, 57, 58, 59, 60, 61, 62, 63, 64, 65, 66, 67, 68, 69, 70, 71, 72, 73, 74, 75, 76, 77, 78, 79, 80, 81, 82, 83, 84, 85, 86, 87, 88, 89, 90, 91, 92, 93, 94, 95, 96, 97, 98, 99, 100, 101, 102] (by decide +kernel) (by decide +kernel)) (goodIn_sub (fun _ h => List.mem_cons_of_mem _ (List.mem_append_left _ (List.mem_append_right _ h))) (by decide +kernel))) (goodIn_sub (fun _ h => List.mem_cons_of_mem _ (List.mem_append_right _ h)) (by decide +kernel))
set_option maxRecDepth 20000 in
theorem gL_disjointPaths_X6_disjointPaths : GoodIn wsL_disjointPaths (wsV RL 62 RX6 yX6_disjointPaths wsX6_disjointPaths) := goodIn_app (goodIn_of _ (by decide +kernel)) ggL_disjointPaths_X6_disjointPaths
theorem dL_disjointPaths_0 : decode cL_disjointPaths 0 = .ok (.aload_n 3, 1) := by decide +kernel
theorem dL_disjointPaths_1 : decode cL_disjointPaths 1 = .ok (.iconst 0, 1) := by decide +kernel
theorem dL_disjointPaths_2 : decode cL_disjointPaths 2 = .ok (.aload_n 0, 1) := by decide +kernel
theorem dL_disjointPaths_3 : decode cL_disjointPaths 3 = .ok (.iload_n 1, 1) := by decide +kernel
theorem dL_disjointPaths_4 : decode cL_disjointPaths 4 = .ok (.iload_n 2, 1) := by decide +kernel
theorem dL_disjointPaths_5 : decode cL_disjointPaths 5 = .ok (.invokevirtual 62, 3) := by decide +kernel
theorem dL_disjointPaths_8 : decode cL_disjointPaths 8 = .ok (.i2l, 1) := by decide +kernel
theorem dL_disjointPaths_9 : decode cL_disjointPaths 9 = .ok (.lastore, 1) := by decide +kernel
theorem dL_disjointPaths_10 : decode cL_disjointPaths 10 = .ok (.goto 11, 3) := by decide +kernel
theorem dL_disjointPaths_13 : decode cL_disjointPaths 13 = .ok (.astore 4, 2) := by decide +kernel
theorem dL_disjointPaths_15 : decode cL_disjointPaths 15 = .ok (.iconst 1, 1) := by decide +kernel
theorem dL_disjointPaths_16 : decode cL_disjointPaths 16 = .ok (.ireturn, 1) := by decide +kernel
theorem dL_disjointPaths_17 : decode cL_disjointPaths 17 = .ok (.astore 4, 2) := by decide +kernel
theorem dL_disjointPaths_19 : decode cL_disjointPaths 19 = .ok (.iconst 2, 1) := by decide +kernel
theorem dL_disjointPaths_20 : decode cL_disjointPaths 20 = .ok (.ireturn, 1) := by decide +kernel
theorem dL_disjointPaths_21 : decode cL_disjointPaths 21 = .ok (.iconst 0, 1) := by decide +kernel
theorem dL_disjointPaths_22 : decode cL_disjointPaths 22 = .ok (.ireturn, 1) := by decide +kernel
set_option maxRecDepth 20000 in
theorem ggL_send_X6_send : GoodIn wsL_send wsX6_send := goodIn_ca (goodIn_ca (goodIn_r _ [7, 8, 9, 10, 11, 12, 13, 14, 6, 15, 16, 17, 18, 19, 20, 21, 22, 23, 24, 25, 26, 27, 28, 29, 30, 31, 32, 33, 34, 35, 36, 37, 38, 39, 40, 41, 42, 43, 44, 45, 46, 47, 48, 49, 50, 51, 52, 53, 54, 55, 56, 57, 58, 59, 60, 61, 62, 63, 64, 65, 66, 67, 68, 69, 70, 71, 72, 73, 74, 75, 76, 77, 78, 79, 80, 81, 82, 83, 84, 85, 86, 87, 88, 89, 90] (by decide +kernel) (by decide +kernel)) (goodIn_sub (fun _ h => List.mem_cons_of_mem _ (List.mem_append_left _ (List.mem_append_right _ h))) (by decide +kernel))) (goodIn_sub (fun _ h => List.mem_cons_of_mem _ (List.mem_append_right _ h)) (by decide +kernel))
set_option maxRecDepth 20000 in
theorem gL_send_X6_send : GoodIn wsL_send (wsV RL 65 RX6 yX6_send wsX6_send) := goodIn_app (goodIn_of _ (by decide +kernel)) ggL_send_X6_send
theorem dL_send_0 : decode cL_send 0 = .ok (.aload_n 3, 1) := by decide +kernel
theorem dL_send_1 : decode cL_send 1 = .ok (.iconst 0, 1) := by decide +kernel
theorem dL_send_2 : decode cL_send 2 = .ok (.aload_n 0, 1) := by decide +kernel
theorem dL_send_3 : decode cL_send 3 = .ok (.iload_n 1, 1) := by decide +kernel
theorem dL_send_4 : decode cL_send 4 = .ok (.iload_n 2, 1) := by decide +kernel
theorem dL_send_5 : decode cL_send 5 = .ok (.invokevirtual 65, 3) := by decide +kernel
theorem dL_send_8 : decode cL_send 8 = .ok (.i2l, 1) := by decide +kernel
theorem dL_send_9 : decode cL_send 9 = .ok (.lastore, 1) := by decide +kernel
theorem dL_send_10 : decode cL_send 10 = .ok (.goto 11, 3) := by decide +kernel
theorem dL_send_13 : decode cL_send 13 = .ok (.astore 4, 2) := by decide +kernel
theorem dL_send_15 : decode cL_send 15 = .ok (.iconst 1, 1) := by decide +kernel
theorem dL_send_16 : decode cL_send 16 = .ok (.ireturn, 1) := by decide +kernel
theorem dL_send_17 : decode cL_send 17 = .ok (.astore 4, 2) := by decide +kernel
theorem dL_send_19 : decode cL_send 19 = .ok (.iconst 2, 1) := by decide +kernel
theorem dL_send_20 : decode cL_send 20 = .ok (.ireturn, 1) := by decide +kernel
theorem dL_send_21 : decode cL_send 21 = .ok (.iconst 0, 1) := by decide +kernel
theorem dL_send_22 : decode cL_send 22 = .ok (.ireturn, 1) := by decide +kernel
set_option maxRecDepth 20000 in
theorem ggL_step_X6_step : GoodIn wsL_step wsX6_step := goodIn_ca (goodIn_r _ [6, 7, 8, 9, 10, 11, 12, 13, 14, 15, 16, 17, 18, 19, 20, 21, 22, 23, 24, 25, 26, 27, 28, 29, 30, 31, 32, 33, 34, 35, 36, 37, 38, 39, 40, 41, 42, 43, 44, 45, 46, 47, 48, 49, 50, 51, 52, 53, 54, 55, 56, 57, 5, 58, 59, 60, 61, 62, 63, 64, 65, 66, 67, 68, 69, 70, 71, 72, 73, 74, 75, 76, 77, 78, 79, 80, 81, 82, 83, 84, 85, 86, 87, 88, 89, 90, 91, 92, 93, 94, 95, 96, 97, 98, 99, 100, 101, 102, 103, 104, 105, 106, 107, 108, 109, 110, 111, 112, 113, 114, 115, 116] (by decide +kernel) (by decide +kernel)) (goodIn_sub (fun _ h => List.mem_cons_of_mem _ (List.mem_append_right _ h)) (by decide +kernel))
set_option maxRecDepth 20000 in
theorem gL_step_X6_step : GoodIn wsL_step (wsV RL 68 RX6 yX6_step wsX6_step) := goodIn_app (goodIn_of _ (by decide +kernel)) ggL_step_X6_step
theorem dL_step_0 : decode cL_step 0 = .ok (.aload_n 2, 1) := by decide +kernel
theorem dL_step_1 : decode cL_step 1 = .ok (.iconst 0, 1) := by decide +kernel
theorem dL_step_2 : decode cL_step 2 = .ok (.aload_n 0, 1) := by decide +kernel
theorem dL_step_3 : decode cL_step 3 = .ok (.iload_n 1, 1) := by decide +kernel
theorem dL_step_4 : decode cL_step 4 = .ok (.invokevirtual 68, 3) := by decide +kernel
theorem dL_step_7 : decode cL_step 7 = .ok (.i2l, 1) := by decide +kernel
theorem dL_step_8 : decode cL_step 8 = .ok (.lastore, 1) := by decide +kernel
theorem dL_step_9 : decode cL_step 9 = .ok (.goto 6, 3) := by decide +kernel
theorem dL_step_12 : decode cL_step 12 = .ok (.astore_n 3, 1) := by decide +kernel
theorem dL_step_13 : decode cL_step 13 = .ok (.iconst 1, 1) := by decide +kernel
theorem dL_step_14 : decode cL_step 14 = .ok (.ireturn, 1) := by decide +kernel
theorem dL_step_15 : decode cL_step 15 = .ok (.iconst 0, 1) := by decide +kernel
theorem dL_step_16 : decode cL_step 16 = .ok (.ireturn, 1) := by decide +kernel
set_option maxRecDepth 20000 in
theorem ggL_state_X6_state : GoodIn wsL_state wsX6_state := goodIn_ca (goodIn_r _ [6, 7, 8, 9, 10, 5, 11, 12, 13, 14, 15, 16, 17, 18, 19, 20, 21, 22, 23, 24, 25, 26, 27, 28, 29, 30, 31] (by decide +kernel) (by decide +kernel)) (goodIn_sub (fun _ h => List.mem_cons_of_mem _ (List.mem_append_right _ h)) (by decide +kernel))
set_option maxRecDepth 20000 in
theorem gL_state_X6_state : GoodIn wsL_state (wsV RL 71 RX6 yX6_state wsX6_state) := goodIn_app (goodIn_of _ (by decide +kernel)) ggL_state_X6_state
theorem dL_state_0 : decode cL_state 0 = .ok (.aload_n 2, 1) := by decide +kernel
theorem dL_state_1 : decode cL_state 1 = .ok (.iconst 0, 1) := by decide +kernel
theorem dL_state_2 : decode cL_state 2 = .ok (.aload_n 0, 1) := by decide +kernel
theorem dL_state_3 : decode cL_state 3 = .ok (.iload_n 1, 1) := by decide +kernel
theorem dL_state_4 : decode cL_state 4 = .ok (.invokevirtual 71, 3) := by decide +kernel
theorem dL_state_7 : decode cL_state 7 = .ok (.i2l, 1) := by decide +kernel
theorem dL_state_8 : decode cL_state 8 = .ok (.lastore, 1) := by decide +kernel
theorem dL_state_9 : decode cL_state 9 = .ok (.goto 6, 3) := by decide +kernel
theorem dL_state_12 : decode cL_state 12 = .ok (.astore_n 3, 1) := by decide +kernel
theorem dL_state_13 : decode cL_state 13 = .ok (.iconst 1, 1) := by decide +kernel
theorem dL_state_14 : decode cL_state 14 = .ok (.ireturn, 1) := by decide +kernel
theorem dL_state_15 : decode cL_state 15 = .ok (.iconst 0, 1) := by decide +kernel
theorem dL_state_16 : decode cL_state 16 = .ok (.ireturn, 1) := by decide +kernel
set_option maxRecDepth 20000 in
theorem ggL_position_X6_position : GoodIn wsL_position wsX6_position := goodIn_ca (goodIn_r _ [6, 7, 8, 9, 10, 5, 11, 12, 13, 14, 15, 16, 17, 18, 19, 20, 21, 22, 23, 24, 25, 26, 27, 28, 29, 30, 31] (by decide +kernel) (by decide +kernel)) (goodIn_sub (fun _ h => List.mem_cons_of_mem _ (List.mem_append_right _ h)) (by decide +kernel))
set_option maxRecDepth 20000 in
theorem gL_position_X6_position : GoodIn wsL_position (wsV RL 74 RX6 yX6_position wsX6_position) := goodIn_app (goodIn_of _ (by decide +kernel)) ggL_position_X6_position
theorem dL_position_0 : decode cL_position 0 = .ok (.aload_n 2, 1) := by decide +kernel
theorem dL_position_1 : decode cL_position 1 = .ok (.iconst 0, 1) := by decide +kernel
theorem dL_position_2 : decode cL_position 2 = .ok (.aload_n 0, 1) := by decide +kernel
theorem dL_position_3 : decode cL_position 3 = .ok (.iload_n 1, 1) := by decide +kernel
theorem dL_position_4 : decode cL_position 4 = .ok (.invokevirtual 74, 3) := by decide +kernel
theorem dL_position_7 : decode cL_position 7 = .ok (.i2l, 1) := by decide +kernel
theorem dL_position_8 : decode cL_position 8 = .ok (.lastore, 1) := by decide +kernel
theorem dL_position_9 : decode cL_position 9 = .ok (.goto 6, 3) := by decide +kernel
theorem dL_position_12 : decode cL_position 12 = .ok (.astore_n 3, 1) := by decide +kernel
theorem dL_position_13 : decode cL_position 13 = .ok (.iconst 1, 1) := by decide +kernel
theorem dL_position_14 : decode cL_position 14 = .ok (.ireturn, 1) := by decide +kernel
theorem dL_position_15 : decode cL_position 15 = .ok (.iconst 0, 1) := by decide +kernel
theorem dL_position_16 : decode cL_position 16 = .ok (.ireturn, 1) := by decide +kernel
set_option maxRecDepth 20000 in
theorem ggL_moves_X6_moves : GoodIn wsL_moves wsX6_moves := goodIn_ca (goodIn_r _ [6, 7, 8, 9, 10, 5, 11, 12, 13, 14, 15, 16, 17, 18, 19, 20, 21, 22, 23, 24, 25, 26, 27, 28, 29, 30, 31] (by decide +kernel) (by decide +kernel)) (goodIn_sub (fun _ h => List.mem_cons_of_mem _ (List.mem_append_right _ h)) (by decide +kernel))
set_option maxRecDepth 20000 in
theorem gL_moves_X6_moves : GoodIn wsL_moves (wsV RL 77 RX6 yX6_moves wsX6_moves) := goodIn_app (goodIn_of _ (by decide +kernel)) ggL_moves_X6_moves
theorem dL_moves_0 : decode cL_moves 0 = .ok (.aload_n 2, 1) := by decide +kernel
theorem dL_moves_1 : decode cL_moves 1 = .ok (.iconst 0, 1) := by decide +kernel
theorem dL_moves_2 : decode cL_moves 2 = .ok (.aload_n 0, 1) := by decide +kernel
theorem dL_moves_3 : decode cL_moves 3 = .ok (.iload_n 1, 1) := by decide +kernel
theorem dL_moves_4 : decode cL_moves 4 = .ok (.invokevirtual 77, 3) := by decide +kernel
theorem dL_moves_7 : decode cL_moves 7 = .ok (.i2l, 1) := by decide +kernel
theorem dL_moves_8 : decode cL_moves 8 = .ok (.lastore, 1) := by decide +kernel
theorem dL_moves_9 : decode cL_moves 9 = .ok (.goto 6, 3) := by decide +kernel
theorem dL_moves_12 : decode cL_moves 12 = .ok (.astore_n 3, 1) := by decide +kernel
theorem dL_moves_13 : decode cL_moves 13 = .ok (.iconst 1, 1) := by decide +kernel
theorem dL_moves_14 : decode cL_moves 14 = .ok (.ireturn, 1) := by decide +kernel
theorem dL_moves_15 : decode cL_moves 15 = .ok (.iconst 0, 1) := by decide +kernel
theorem dL_moves_16 : decode cL_moves 16 = .ok (.ireturn, 1) := by decide +kernel
set_option maxRecDepth 20000 in
theorem ggL_count_X6_count : GoodIn wsL_count wsX6_count := goodIn_ca (goodIn_r _ [6, 7, 8, 9, 10, 11, 5, 12, 13, 14, 15, 16, 17, 18, 19, 20, 21, 22, 23, 24, 25, 26, 27] (by decide +kernel) (by decide +kernel)) (goodIn_sub (fun _ h => List.mem_cons_of_mem _ (List.mem_append_right _ h)) (by decide +kernel))
set_option maxRecDepth 20000 in
theorem gL_count_X6_count : GoodIn wsL_count (wsV RL 80 RX6 yX6_count wsX6_count) := goodIn_app (goodIn_of _ (by decide +kernel)) ggL_count_X6_count
theorem dL_count_0 : decode cL_count 0 = .ok (.aload_n 2, 1) := by decide +kernel
theorem dL_count_1 : decode cL_count 1 = .ok (.iconst 0, 1) := by decide +kernel
theorem dL_count_2 : decode cL_count 2 = .ok (.aload_n 0, 1) := by decide +kernel
theorem dL_count_3 : decode cL_count 3 = .ok (.iload_n 1, 1) := by decide +kernel
theorem dL_count_4 : decode cL_count 4 = .ok (.invokevirtual 80, 3) := by decide +kernel
theorem dL_count_7 : decode cL_count 7 = .ok (.i2l, 1) := by decide +kernel
theorem dL_count_8 : decode cL_count 8 = .ok (.lastore, 1) := by decide +kernel
theorem dL_count_9 : decode cL_count 9 = .ok (.goto 6, 3) := by decide +kernel
theorem dL_count_12 : decode cL_count 12 = .ok (.astore_n 3, 1) := by decide +kernel
theorem dL_count_13 : decode cL_count 13 = .ok (.iconst 1, 1) := by decide +kernel
theorem dL_count_14 : decode cL_count 14 = .ok (.ireturn, 1) := by decide +kernel
theorem dL_count_15 : decode cL_count 15 = .ok (.iconst 0, 1) := by decide +kernel
theorem dL_count_16 : decode cL_count 16 = .ok (.ireturn, 1) := by decide +kernel
set_option maxRecDepth 20000 in
theorem ggL_undo_X6_undo : GoodIn wsL_undo wsX6_undo := goodIn_ca (goodIn_r _ [6, 7, 8, 9, 10, 11, 12, 13, 14, 15, 16, 17, 18, 19, 20, 21, 22, 23, 24, 25, 26, 27, 28, 29, 30, 31, 32, 33, 34, 35, 36, 37, 38, 39, 40, 41, 42, 43, 5, 44, 45, 46, 47, 48, 49, 50, 51, 52, 53, 54, 55, 56, 57, 58, 59, 60, 61, 62, 63, 64, 65, 66, 67, 68, 69, 70, 71, 72, 73, 74, 75, 76, 77, 78, 79, 80, 81, 82, 83, 84, 85, 86, 87, 88, 89, 90, 91, 92, 93, 94, 95, 96, 97, 98, 99, 100, 101, 102, 103, 104, 105, 106, 107, 108, 109, 110, 111, 112, 113, 114, 115] (by decide +kernel) (by decide +kernel)) (goodIn_sub (fun _ h => List.mem_cons_of_mem _ (List.mem_append_right _ h)) (by decide +kernel))
set_option maxRecDepth 20000 in
theorem gL_undo_X6_undo : GoodIn wsL_undo (wsV RL 83 RX6 yX6_undo wsX6_undo) := goodIn_app (goodIn_of _ (by decide +kernel)) ggL_undo_X6_undo
theorem dL_undo_0 : decode cL_undo 0 = .ok (.aload_n 1, 1) := by decide +kernel
theorem dL_undo_1 : decode cL_undo 1 = .ok (.iconst 0, 1) := by decide +kernel
theorem dL_undo_2 : decode cL_undo 2 = .ok (.aload_n 0, 1) := by decide +kernel
theorem dL_undo_3 : decode cL_undo 3 = .ok (.invokevirtual 83, 3) := by decide +kernel
theorem dL_undo_6 : decode cL_undo 6 = .ok (.i2l, 1) := by decide +kernel
theorem dL_undo_7 : decode cL_undo 7 = .ok (.lastore, 1) := by decide +kernel
theorem dL_undo_8 : decode cL_undo 8 = .ok (.goto 6, 3) := by decide +kernel
theorem dL_undo_11 : decode cL_undo 11 = .ok (.astore_n 2, 1) := by decide +kernel
theorem dL_undo_12 : decode cL_undo 12 = .ok (.iconst 1, 1) := by decide +kernel
theorem dL_undo_13 : decode cL_undo 13 = .ok (.ireturn, 1) := by decide +kernel
theorem dL_undo_14 : decode cL_undo 14 = .ok (.iconst 0, 1) := by decide +kernel
theorem dL_undo_15 : decode cL_undo 15 = .ok (.ireturn, 1) := by decide +kernel
