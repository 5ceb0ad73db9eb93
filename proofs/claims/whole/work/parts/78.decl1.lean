/-! decode rows of the law and its helpers -/
theorem dL_add_0 : decode cL_add 0 = .ok (.aload 4, 2) := by decide +kernel
theorem dL_add_2 : decode cL_add 2 = .ok (.iconst 0, 1) := by decide +kernel
theorem dL_add_3 : decode cL_add 3 = .ok (.aload_n 0, 1) := by decide +kernel
theorem dL_add_4 : decode cL_add 4 = .ok (.lload_n 1, 1) := by decide +kernel
theorem dL_add_5 : decode cL_add 5 = .ok (.iload_n 3, 1) := by decide +kernel
theorem dL_add_6 : decode cL_add 6 = .ok (.invokevirtual 7, 3) := by decide +kernel
theorem dL_add_9 : decode cL_add 9 = .ok (.i2l, 1) := by decide +kernel
theorem dL_add_10 : decode cL_add 10 = .ok (.lastore, 1) := by decide +kernel
theorem dL_add_11 : decode cL_add 11 = .ok (.goto 11, 3) := by decide +kernel
theorem dL_add_14 : decode cL_add 14 = .ok (.astore 5, 2) := by decide +kernel
theorem dL_add_16 : decode cL_add 16 = .ok (.iconst 1, 1) := by decide +kernel
theorem dL_add_17 : decode cL_add 17 = .ok (.ireturn, 1) := by decide +kernel
theorem dL_add_18 : decode cL_add 18 = .ok (.astore 5, 2) := by decide +kernel
theorem dL_add_20 : decode cL_add 20 = .ok (.iconst 2, 1) := by decide +kernel
theorem dL_add_21 : decode cL_add 21 = .ok (.ireturn, 1) := by decide +kernel
theorem dL_add_22 : decode cL_add 22 = .ok (.iconst 0, 1) := by decide +kernel
theorem dL_add_23 : decode cL_add 23 = .ok (.ireturn, 1) := by decide +kernel
set_option maxRecDepth 20000 in
theorem ggL_forget_X9_forget : GoodIn wsL_forget wsX9_forget := goodIn_ca (goodIn_ca (goodIn_r _ [7, 8, 9, 10, 11, 12, 13, 6, 14, 15, 16, 17, 18, 19, 20, 21, 22, 23, 24, 25, 26, 27, 28, 29, 30, 31, 32, 33, 34, 35, 36, 37, 38, 39, 40, 41, 42, 43, 44, 45, 46, 47, 48, 49, 50, 51, 52, 53, 54, 55, 56, 57, 58, 59, 60, 61, 62, 63, 64, 65, 66, 67, 68, 69, 70, 71, 72, 73, 74, 75, 76, 77] (by decide +kernel) (by decide +kernel)) (goodIn_sub (fun _ h => List.mem_cons_of_mem _ (List.mem_append_left _ (List.mem_append_right _ h))) (by decide +kernel))) (goodIn_sub (fun _ h => List.mem_cons_of_mem _ (List.mem_append_right _ h)) (by decide +kernel))
set_option maxRecDepth 20000 in
theorem gL_forget_X9_forget : GoodIn wsL_forget (wsV RL 17 RX9 yX9_forget wsX9_forget) := goodIn_app (goodIn_of _ (by decide +kernel)) ggL_forget_X9_forget
theorem dL_forget_0 : decode cL_forget 0 = .ok (.aload_n 3, 1) := by decide +kernel
theorem dL_forget_1 : decode cL_forget 1 = .ok (.iconst 0, 1) := by decide +kernel
theorem dL_forget_2 : decode cL_forget 2 = .ok (.aload_n 0, 1) := by decide +kernel
theorem dL_forget_3 : decode cL_forget 3 = .ok (.lload_n 1, 1) := by decide +kernel
theorem dL_forget_4 : decode cL_forget 4 = .ok (.invokevirtual 17, 3) := by decide +kernel
theorem dL_forget_7 : decode cL_forget 7 = .ok (.i2l, 1) := by decide +kernel
theorem dL_forget_8 : decode cL_forget 8 = .ok (.lastore, 1) := by decide +kernel
theorem dL_forget_9 : decode cL_forget 9 = .ok (.goto 11, 3) := by decide +kernel
theorem dL_forget_12 : decode cL_forget 12 = .ok (.astore 4, 2) := by decide +kernel
theorem dL_forget_14 : decode cL_forget 14 = .ok (.iconst 1, 1) := by decide +kernel
theorem dL_forget_15 : decode cL_forget 15 = .ok (.ireturn, 1) := by decide +kernel
theorem dL_forget_16 : decode cL_forget 16 = .ok (.astore 4, 2) := by decide +kernel
theorem dL_forget_18 : decode cL_forget 18 = .ok (.iconst 2, 1) := by decide +kernel
theorem dL_forget_19 : decode cL_forget 19 = .ok (.ireturn, 1) := by decide +kernel
theorem dL_forget_20 : decode cL_forget 20 = .ok (.iconst 0, 1) := by decide +kernel
theorem dL_forget_21 : decode cL_forget 21 = .ok (.ireturn, 1) := by decide +kernel
set_option maxRecDepth 20000 in
theorem ggL_count_X9_count : GoodIn wsL_count wsX9_count := goodIn_ca (goodIn_r _ [6, 7, 8, 9, 5, 10, 11, 12, 13, 14, 15, 16, 17, 18, 19, 20, 21, 22, 23, 24, 25, 26, 27, 28, 29, 30, 31, 32, 33, 34, 35, 36, 37, 38, 39, 40, 41, 42, 43, 44, 45, 46, 47, 48, 49, 50, 51, 52, 53, 54, 55, 56, 57, 58, 59, 60, 61, 62, 63, 64, 65, 66, 67, 68, 69] (by decide +kernel) (by decide +kernel)) (goodIn_sub (fun _ h => List.mem_cons_of_mem _ (List.mem_append_right _ h)) (by decide +kernel))
set_option maxRecDepth 20000 in
theorem gL_count_X9_count : GoodIn wsL_count (wsV RL 21 RX9 yX9_count wsX9_count) := goodIn_app (goodIn_of _ (by decide +kernel)) ggL_count_X9_count
theorem dL_count_0 : decode cL_count 0 = .ok (.aload_n 3, 1) := by decide +kernel
theorem dL_count_1 : decode cL_count 1 = .ok (.iconst 0, 1) := by decide +kernel
theorem dL_count_2 : decode cL_count 2 = .ok (.aload_n 0, 1) := by decide +kernel
theorem dL_count_3 : decode cL_count 3 = .ok (.lload_n 1, 1) := by decide +kernel
theorem dL_count_4 : decode cL_count 4 = .ok (.invokevirtual 21, 3) := by decide +kernel
theorem dL_count_7 : decode cL_count 7 = .ok (.i2l, 1) := by decide +kernel
theorem dL_count_8 : decode cL_count 8 = .ok (.lastore, 1) := by decide +kernel
theorem dL_count_9 : decode cL_count 9 = .ok (.goto 7, 3) := by decide +kernel
theorem dL_count_12 : decode cL_count 12 = .ok (.astore 4, 2) := by decide +kernel
theorem dL_count_14 : decode cL_count 14 = .ok (.iconst 1, 1) := by decide +kernel
theorem dL_count_15 : decode cL_count 15 = .ok (.ireturn, 1) := by decide +kernel
theorem dL_count_16 : decode cL_count 16 = .ok (.iconst 0, 1) := by decide +kernel
theorem dL_count_17 : decode cL_count 17 = .ok (.ireturn, 1) := by decide +kernel
set_option maxRecDepth 20000 in
theorem ggL_wordAt_X9_wordAt : GoodIn wsL_wordAt wsX9_wordAt := goodIn_ca (goodIn_r _ [6, 7, 8, 9, 5, 10, 11, 12, 13, 14, 15, 16, 17, 18, 19, 20, 21, 22, 23, 24, 25, 26, 27, 28, 29, 30, 31, 32, 33, 34, 35, 36, 37, 38] (by decide +kernel) (by decide +kernel)) (goodIn_sub (fun _ h => List.mem_cons_of_mem _ (List.mem_append_right _ h)) (by decide +kernel))
set_option maxRecDepth 20000 in
theorem gL_wordAt_X9_wordAt : GoodIn wsL_wordAt (wsV RL 24 RX9 yX9_wordAt wsX9_wordAt) := goodIn_app (goodIn_of _ (by decide +kernel)) ggL_wordAt_X9_wordAt
theorem dL_wordAt_0 : decode cL_wordAt 0 = .ok (.aload_n 2, 1) := by decide +kernel
theorem dL_wordAt_1 : decode cL_wordAt 1 = .ok (.iconst 0, 1) := by decide +kernel
theorem dL_wordAt_2 : decode cL_wordAt 2 = .ok (.aload_n 0, 1) := by decide +kernel
theorem dL_wordAt_3 : decode cL_wordAt 3 = .ok (.iload_n 1, 1) := by decide +kernel
theorem dL_wordAt_4 : decode cL_wordAt 4 = .ok (.invokevirtual 24, 3) := by decide +kernel
theorem dL_wordAt_7 : decode cL_wordAt 7 = .ok (.lastore, 1) := by decide +kernel
theorem dL_wordAt_8 : decode cL_wordAt 8 = .ok (.goto 6, 3) := by decide +kernel
theorem dL_wordAt_11 : decode cL_wordAt 11 = .ok (.astore_n 3, 1) := by decide +kernel
theorem dL_wordAt_12 : decode cL_wordAt 12 = .ok (.iconst 1, 1) := by decide +kernel
theorem dL_wordAt_13 : decode cL_wordAt 13 = .ok (.ireturn, 1) := by decide +kernel
theorem dL_wordAt_14 : decode cL_wordAt 14 = .ok (.iconst 0, 1) := by decide +kernel
theorem dL_wordAt_15 : decode cL_wordAt 15 = .ok (.ireturn, 1) := by decide +kernel
set_option maxRecDepth 20000 in
theorem ggL_distance_X9_distance : GoodIn wsL_distance wsX9_distance := goodIn_ca (goodIn_r _ [6, 7, 8, 9, 5, 10, 11, 12, 13, 14, 15, 16, 17, 18, 19, 20, 21, 22, 23, 24, 25, 26, 27, 28, 29, 30, 31, 32, 33, 34, 35, 36, 37, 38, 39, 40, 41, 42, 43, 44, 45, 46, 47, 48, 49, 50, 51, 52, 53, 54, 55, 56, 57, 58, 59, 60, 61, 62, 63, 64, 65, 66, 67, 68, 69, 70, 71, 72, 73, 74, 75, 76, 77, 78] (by decide +kernel) (by decide +kernel)) (goodIn_sub (fun _ h => List.mem_cons_of_mem _ (List.mem_append_right _ h)) (by decide +kernel))
set_option maxRecDepth 20000 in
theorem gL_distance_X9_distance : GoodIn wsL_distance (wsV RL 30 RX9 yX9_distance wsX9_distance) := goodIn_app (goodIn_of _ (by decide +kernel)) ggL_distance_X9_distance
theorem dL_distance_0 : decode cL_distance 0 = .ok (.aload 5, 2) := by decide +kernel
theorem dL_distance_2 : decode cL_distance 2 = .ok (.iconst 0, 1) := by decide +kernel
theorem dL_distance_3 : decode cL_distance 3 = .ok (.aload_n 0, 1) := by decide +kernel
theorem dL_distance_4 : decode cL_distance 4 = .ok (.lload_n 1, 1) := by decide +kernel
theorem dL_distance_5 : decode cL_distance 5 = .ok (.lload_n 3, 1) := by decide +kernel
theorem dL_distance_6 : decode cL_distance 6 = .ok (.invokevirtual 30, 3) := by decide +kernel
theorem dL_distance_9 : decode cL_distance 9 = .ok (.i2l, 1) := by decide +kernel
theorem dL_distance_10 : decode cL_distance 10 = .ok (.lastore, 1) := by decide +kernel
theorem dL_distance_11 : decode cL_distance 11 = .ok (.goto 7, 3) := by decide +kernel
theorem dL_distance_14 : decode cL_distance 14 = .ok (.astore 6, 2) := by decide +kernel
theorem dL_distance_16 : decode cL_distance 16 = .ok (.iconst 1, 1) := by decide +kernel
theorem dL_distance_17 : decode cL_distance 17 = .ok (.ireturn, 1) := by decide +kernel
theorem dL_distance_18 : decode cL_distance 18 = .ok (.iconst 0, 1) := by decide +kernel
theorem dL_distance_19 : decode cL_distance 19 = .ok (.ireturn, 1) := by decide +kernel
set_option maxRecDepth 20000 in
theorem ggL_price_X9_price : GoodIn wsL_price wsX9_price := goodIn_ca (goodIn_r _ [6, 7, 8, 9, 5, 10, 11, 12, 13, 14, 15, 16, 17, 18, 19, 20, 21, 22, 23, 24, 25, 26, 27, 28, 29, 30, 31, 32, 33, 34, 35, 36, 37, 38, 39, 40, 41, 42, 43, 44, 45, 46, 47, 48, 49, 50, 51, 52, 53, 54, 55, 56, 57, 58, 59, 60, 61, 62, 63, 64, 65, 66, 67, 68, 69, 70, 71, 72, 73, 74, 75, 76, 77, 78, 79, 80, 81, 82, 83, 84, 85, 86, 87, 88, 89, 90, 91, 92] (by decide +kernel) (by decide +kernel)) (goodIn_sub (fun _ h => List.mem_cons_of_mem _ (List.mem_append_right _ h)) (by decide +kernel))
set_option maxRecDepth 20000 in
theorem gL_price_X9_price : GoodIn wsL_price (wsV RL 34 RX9 yX9_price wsX9_price) := goodIn_app (goodIn_of _ (by decide +kernel)) ggL_price_X9_price
theorem dL_price_0 : decode cL_price 0 = .ok (.aload 5, 2) := by decide +kernel
theorem dL_price_2 : decode cL_price 2 = .ok (.iconst 0, 1) := by decide +kernel
theorem dL_price_3 : decode cL_price 3 = .ok (.aload_n 0, 1) := by decide +kernel
theorem dL_price_4 : decode cL_price 4 = .ok (.lload_n 1, 1) := by decide +kernel
theorem dL_price_5 : decode cL_price 5 = .ok (.lload_n 3, 1) := by decide +kernel
theorem dL_price_6 : decode cL_price 6 = .ok (.invokevirtual 34, 3) := by decide +kernel
theorem dL_price_9 : decode cL_price 9 = .ok (.i2l, 1) := by decide +kernel
theorem dL_price_10 : decode cL_price 10 = .ok (.lastore, 1) := by decide +kernel
theorem dL_price_11 : decode cL_price 11 = .ok (.goto 7, 3) := by decide +kernel
theorem dL_price_14 : decode cL_price 14 = .ok (.astore 6, 2) := by decide +kernel
theorem dL_price_16 : decode cL_price 16 = .ok (.iconst 1, 1) := by decide +kernel
theorem dL_price_17 : decode cL_price 17 = .ok (.ireturn, 1) := by decide +kernel
theorem dL_price_18 : decode cL_price 18 = .ok (.iconst 0, 1) := by decide +kernel
theorem dL_price_19 : decode cL_price 19 = .ok (.ireturn, 1) := by decide +kernel
set_option maxRecDepth 20000 in
theorem ggL_areNeighbours_X9_areNeighbours : GoodIn wsL_areNeighbours wsX9_areNeighbours := goodIn_ca (goodIn_r _ [6, 7, 8, 5, 9, 10, 11, 12, 13, 14, 15, 16, 17, 18, 19, 20] (by decide +kernel) (by decide +kernel)) (goodIn_sub (fun _ h => List.mem_cons_of_mem _ (List.mem_append_right _ h)) (by decide +kernel))
set_option maxRecDepth 20000 in
theorem gL_areNeighbours_X9_areNeighbours : GoodIn wsL_areNeighbours (wsV RL 37 RX9 yX9_areNeighbours wsX9_areNeighbours) := goodIn_app (goodIn_of _ (by decide +kernel)) ggL_areNeighbours_X9_areNeighbours
theorem dL_areNeighbours_0 : decode cL_areNeighbours 0 = .ok (.aload_n 3, 1) := by decide +kernel
theorem dL_areNeighbours_1 : decode cL_areNeighbours 1 = .ok (.iconst 0, 1) := by decide +kernel
theorem dL_areNeighbours_2 : decode cL_areNeighbours 2 = .ok (.aload_n 0, 1) := by decide +kernel
theorem dL_areNeighbours_3 : decode cL_areNeighbours 3 = .ok (.iload_n 1, 1) := by decide +kernel
theorem dL_areNeighbours_4 : decode cL_areNeighbours 4 = .ok (.iload_n 2, 1) := by decide +kernel
theorem dL_areNeighbours_5 : decode cL_areNeighbours 5 = .ok (.invokevirtual 37, 3) := by decide +kernel
theorem dL_areNeighbours_8 : decode cL_areNeighbours 8 = .ok (.ifCond .eq 7, 3) := by decide +kernel
theorem dL_areNeighbours_11 : decode cL_areNeighbours 11 = .ok (.lconst 1, 1) := by decide +kernel
theorem dL_areNeighbours_12 : decode cL_areNeighbours 12 = .ok (.goto 4, 3) := by decide +kernel
theorem dL_areNeighbours_15 : decode cL_areNeighbours 15 = .ok (.lconst 0, 1) := by decide +kernel
theorem dL_areNeighbours_16 : decode cL_areNeighbours 16 = .ok (.lastore, 1) := by decide +kernel
theorem dL_areNeighbours_17 : decode cL_areNeighbours 17 = .ok (.goto 7, 3) := by decide +kernel
theorem dL_areNeighbours_20 : decode cL_areNeighbours 20 = .ok (.astore 4, 2) := by decide +kernel
theorem dL_areNeighbours_22 : decode cL_areNeighbours 22 = .ok (.iconst 1, 1) := by decide +kernel
theorem dL_areNeighbours_23 : decode cL_areNeighbours 23 = .ok (.ireturn, 1) := by decide +kernel
theorem dL_areNeighbours_24 : decode cL_areNeighbours 24 = .ok (.iconst 0, 1) := by decide +kernel
theorem dL_areNeighbours_25 : decode cL_areNeighbours 25 = .ok (.ireturn, 1) := by decide +kernel
set_option maxRecDepth 20000 in
theorem ggL_corrections_X9_corrections : GoodIn wsL_corrections wsX9_corrections := goodIn_ca (goodIn_r _ [6, 7, 8, 9, 5, 10, 11, 12, 13, 14, 15, 16, 17, 18, 19, 20, 21, 22, 23, 24, 25, 26, 27, 28, 29, 30, 31, 32, 33, 34, 35, 36, 37, 38, 39, 40, 41, 42, 43, 44, 45, 46, 47, 48, 49, 50, 51, 52, 53, 54, 55, 56, 57, 58, 59, 60, 61, 62, 63, 64, 65, 66, 67, 68, 69, 70, 71, 72, 73, 74, 75, 76, 77, 78, 79, 80, 81, 82, 83, 84, 85, 86, 87, 88, 89, 90, 91, 92, 93, 94, 95, 96, 97, 98, 99, 100, 101, 102, 103, 104, 105, 106, 107, 108, 109, 110, 111, 112, 113, 114, 115, 116, 117, 118, 119, 120, 121, 122, 123, 124, 125, 126, 127, 128, 129, 130, 131, 132, 133, 134, 135, 136, 137, 138, 139, 140, 141, 142, 143, 144, 145, 146, 147, 148, 149, 150, 151, 152, 153, 154, 155, 156, 157, 158, 159, 160, 161, 162, 163] (by decide +kernel) (by decide +kernel)) (goodIn_sub (fun _ h => List.mem_cons_of_mem _ (List.mem_append_right _ h)) (by decide +kernel))
set_option maxRecDepth 20000 in
theorem gL_corrections_X9_corrections : GoodIn wsL_corrections (wsV RL 41 RX9 yX9_corrections wsX9_corrections) := goodIn_app (goodIn_of _ (by decide +kernel)) ggL_corrections_X9_corrections
theorem dL_corrections_0 : decode cL_corrections 0 = .ok (.aload 4, 2) := by decide +kernel
theorem dL_corrections_2 : decode cL_corrections 2 = .ok (.iconst 0, 1) := by decide +kernel
theorem dL_corrections_3 : decode cL_corrections 3 = .ok (.aload_n 0, 1) := by decide +kernel
theorem dL_corrections_4 : decode cL_corrections 4 = .ok (.lload_n 1, 1) := by decide +kernel
theorem dL_corrections_5 : decode cL_corrections 5 = .ok (.iload_n 3, 1) := by decide +kernel
theorem dL_corrections_6 : decode cL_corrections 6 = .ok (.invokevirtual 41, 3) := by decide +kernel
theorem dL_corrections_9 : decode cL_corrections 9 = .ok (.i2l, 1) := by decide +kernel
theorem dL_corrections_10 : decode cL_corrections 10 = .ok (.lastore, 1) := by decide +kernel
theorem dL_corrections_11 : decode cL_corrections 11 = .ok (.goto 7, 3) := by decide +kernel
theorem dL_corrections_14 : decode cL_corrections 14 = .ok (.astore 5, 2) := by decide +kernel
theorem dL_corrections_16 : decode cL_corrections 16 = .ok (.iconst 1, 1) := by decide +kernel
theorem dL_corrections_17 : decode cL_corrections 17 = .ok (.ireturn, 1) := by decide +kernel
theorem dL_corrections_18 : decode cL_corrections 18 = .ok (.iconst 0, 1) := by decide +kernel
theorem dL_corrections_19 : decode cL_corrections 19 = .ok (.ireturn, 1) := by decide +kernel
set_option maxRecDepth 20000 in
theorem ggL_correction_X9_correction : GoodIn wsL_correction wsX9_correction := goodIn_ca (goodIn_ca (goodIn_r _ [7, 8, 9, 10, 6, 11, 12, 13, 14, 15, 16, 17, 18, 19, 20, 21, 22, 23, 24, 25, 26, 27, 28, 29, 30, 31, 32, 33, 34, 35, 36, 37, 38, 39, 40, 41, 42, 43, 44, 45, 46, 47, 48, 49, 50, 51, 52, 53, 54, 55, 56, 57, 58, 59, 60, 61, 62, 63, 64, 65, 66, 67, 68, 69, 70, 71, 72, 73, 74, 75, 76, 77, 78, 79, 80, 81, 82, 83, 84, 85, 86, 87, 88, 89, 90, 91, 92, 93, 94, 95, 96, 97, 98, 99, 100, 101, 102, 103, 104, 105, 106, 107, 108, 109, 110, 111, 112, 113, 114, 115, 116, 117, 118, 119, 120, 121, 122, 123, 124, 125, 126, 127, 128, 129, 130, 131, 132, 133, 134, 135, 136, 137, 138, 139, 140, 141, 142, 143, 144, 145, 146, 147, 148, 149, 150, 151, 152, 153, 154, 155, 156, 157, 158, 159, 160, 161, 162, 163, 164, 165, 166, 167, 168, 169] (by decide +kernel) (by decide +kernel)) (goodIn_sub (fun _ h => List.mem_cons_of_mem _ (List.mem_append_left _ (List.mem_append_right _ h))) (by decide +kernel))) (goodIn_sub (fun _ h => List.mem_cons_of_mem _ (List.mem_append_right _ h)) (by decide +kernel))
set_option maxRecDepth 20000 in
theorem gL_correction_X9_correction : GoodIn wsL_correction (wsV RL 44 RX9 yX9_correction wsX9_correction) := goodIn_app (goodIn_of _ (by decide +kernel)) ggL_correction_X9_correction
theorem dL_correction_0 : decode cL_correction 0 = .ok (.aload 5, 2) := by decide +kernel
theorem dL_correction_2 : decode cL_correction 2 = .ok (.iconst 0, 1) := by decide +kernel
theorem dL_correction_3 : decode cL_correction 3 = .ok (.aload_n 0, 1) := by decide +kernel
theorem dL_correction_4 : decode cL_correction 4 = .ok (.lload_n 1, 1) := by decide +kernel
theorem dL_correction_5 : decode cL_correction 5 = .ok (.iload_n 3, 1) := by decide +kernel
theorem dL_correction_6 : decode cL_correction 6 = .ok (.iload 4, 2) := by decide +kernel
theorem dL_correction_8 : decode cL_correction 8 = .ok (.invokevirtual 44, 3) := by decide +kernel
theorem dL_correction_11 : decode cL_correction 11 = .ok (.lastore, 1) := by decide +kernel
theorem dL_correction_12 : decode cL_correction 12 = .ok (.goto 11, 3) := by decide +kernel
theorem dL_correction_15 : decode cL_correction 15 = .ok (.astore 6, 2) := by decide +kernel
theorem dL_correction_17 : decode cL_correction 17 = .ok (.iconst 1, 1) := by decide +kernel
theorem dL_correction_18 : decode cL_correction 18 = .ok (.ireturn, 1) := by decide +kernel
theorem dL_correction_19 : decode cL_correction 19 = .ok (.astore 6, 2) := by decide +kernel
theorem dL_correction_21 : decode cL_correction 21 = .ok (.iconst 2, 1) := by decide +kernel
theorem dL_correction_22 : decode cL_correction 22 = .ok (.ireturn, 1) := by decide +kernel
theorem dL_correction_23 : decode cL_correction 23 = .ok (.iconst 0, 1) := by decide +kernel
theorem dL_correction_24 : decode cL_correction 24 = .ok (.ireturn, 1) := by decide +kernel
set_option maxRecDepth 20000 in
theorem ggL_nearest_X9_nearest : GoodIn wsL_nearest wsX9_nearest := goodIn_ca (goodIn_r _ [6, 7, 8, 9, 10, 11, 12, 13, 14, 5, 15, 16, 17, 18, 19, 20, 21, 22, 23, 24, 25, 26, 27, 28, 29, 30, 31, 32, 33, 34, 35, 36, 37, 38, 39, 40, 41, 42, 43, 44, 45, 46, 47, 48, 49, 50, 51, 52, 53, 54, 55, 56, 57, 58, 59, 60, 61, 62, 63, 64, 65, 66, 67, 68, 69, 70, 71, 72, 73, 74, 75, 76, 77, 78, 79, 80, 81, 82, 83, 84, 85, 86, 87, 88, 89, 90, 91, 92, 93, 94, 95, 96, 97, 98, 99, 100, 101] (by decide +kernel) (by decide +kernel)) (goodIn_sub (fun _ h => List.mem_cons_of_mem _ (List.mem_append_right _ h)) (by decide +kernel))
set_option maxRecDepth 20000 in
theorem gL_nearest_X9_nearest : GoodIn wsL_nearest (wsV RL 48 RX9 yX9_nearest wsX9_nearest) := goodIn_app (goodIn_of _ (by decide +kernel)) ggL_nearest_X9_nearest
theorem dL_nearest_0 : decode cL_nearest 0 = .ok (.aload_n 3, 1) := by decide +kernel
theorem dL_nearest_1 : decode cL_nearest 1 = .ok (.iconst 0, 1) := by decide +kernel
theorem dL_nearest_2 : decode cL_nearest 2 = .ok (.aload_n 0, 1) := by decide +kernel
theorem dL_nearest_3 : decode cL_nearest 3 = .ok (.lload_n 1, 1) := by decide +kernel
theorem dL_nearest_4 : decode cL_nearest 4 = .ok (.invokevirtual 48, 3) := by decide +kernel
theorem dL_nearest_7 : decode cL_nearest 7 = .ok (.i2l, 1) := by decide +kernel
theorem dL_nearest_8 : decode cL_nearest 8 = .ok (.lastore, 1) := by decide +kernel
theorem dL_nearest_9 : decode cL_nearest 9 = .ok (.goto 7, 3) := by decide +kernel
theorem dL_nearest_12 : decode cL_nearest 12 = .ok (.astore 4, 2) := by decide +kernel
theorem dL_nearest_14 : decode cL_nearest 14 = .ok (.iconst 1, 1) := by decide +kernel
theorem dL_nearest_15 : decode cL_nearest 15 = .ok (.ireturn, 1) := by decide +kernel
theorem dL_nearest_16 : decode cL_nearest 16 = .ok (.iconst 0, 1) := by decide +kernel
theorem dL_nearest_17 : decode cL_nearest 17 = .ok (.ireturn, 1) := by decide +kernel
set_option maxRecDepth 20000 in
theorem ggL_trieReached_X9_trieReached : GoodIn wsL_trieReached wsX9_trieReached := goodIn_ca (goodIn_r _ [6, 7, 8, 9, 10, 11, 5, 12, 13, 14, 15, 16, 17, 18, 19, 20, 21, 22, 23, 24, 25, 26, 27, 28, 29, 30, 31, 32, 33, 34, 35, 36, 37, 38, 39, 40, 41, 42, 43, 44, 45, 46, 47, 48, 49, 50, 51, 52, 53, 54, 55, 56, 57, 58, 59, 60, 61, 62, 63, 64, 65, 66, 67, 68, 69, 70, 71, 72, 73, 74, 75, 76, 77, 78, 79, 80, 81, 82, 83, 84, 85, 86, 87, 88, 89, 90, 91, 92, 93, 94, 95, 96, 97, 98, 99, 100, 101, 102, 103, 104, 105, 106, 107, 108, 109, 110, 111, 112, 113, 114, 115, 116, 117, 118, 119, 120, 121, 122, 123, 124, 125, 126, 127, 128, 129, 130, 131, 132, 133, 134, 135, 136, 137, 138, 139, 140, 141, 142, 143, 144, 145, 146, 147, 148, 149] (by decide +kernel) (by decide +kernel)) (goodIn_sub (fun _ h => List.mem_cons_of_mem _ (List.mem_append_right _ h)) (by decide +kernel))
set_option maxRecDepth 20000 in
theorem gL_trieReached_X9_trieReached : GoodIn wsL_trieReached (wsV RL 51 RX9 yX9_trieReached wsX9_trieReached) := goodIn_app (goodIn_of _ (by decide +kernel)) ggL_trieReached_X9_trieReached
theorem dL_trieReached_0 : decode cL_trieReached 0 = .ok (.aload 4, 2) := by decide +kernel
theorem dL_trieReached_2 : decode cL_trieReached 2 = .ok (.iconst 0, 1) := by decide +kernel
theorem dL_trieReached_3 : decode cL_trieReached 3 = .ok (.aload_n 0, 1) := by decide +kernel
theorem dL_trieReached_4 : decode cL_trieReached 4 = .ok (.lload_n 1, 1) := by decide +kernel
theorem dL_trieReached_5 : decode cL_trieReached 5 = .ok (.iload_n 3, 1) := by decide +kernel
theorem dL_trieReached_6 : decode cL_trieReached 6 = .ok (.invokevirtual 51, 3) := by decide +kernel
theorem dL_trieReached_9 : decode cL_trieReached 9 = .ok (.i2l, 1) := by decide +kernel
theorem dL_trieReached_10 : decode cL_trieReached 10 = .ok (.lastore, 1) := by decide +kernel
theorem dL_trieReached_11 : decode cL_trieReached 11 = .ok (.goto 7, 3) := by decide +kernel
theorem dL_trieReached_14 : decode cL_trieReached 14 = .ok (.astore 5, 2) := by decide +kernel
theorem dL_trieReached_16 : decode cL_trieReached 16 = .ok (.iconst 1, 1) := by decide +kernel
theorem dL_trieReached_17 : decode cL_trieReached 17 = .ok (.ireturn, 1) := by decide +kernel
theorem dL_trieReached_18 : decode cL_trieReached 18 = .ok (.iconst 0, 1) := by decide +kernel
theorem dL_trieReached_19 : decode cL_trieReached 19 = .ok (.ireturn, 1) := by decide +kernel
set_option maxRecDepth 20000 in
theorem ggL_rows_X9_rows : GoodIn wsL_rows wsX9_rows := goodIn_ca (goodIn_r _ [6, 7, 8, 9, 10, 11, 5, 12, 13, 14, 15, 16, 17, 18, 19, 20, 21, 22, 23, 24, 25, 26, 27, 28, 29, 30, 31, 32, 33, 34, 35, 36, 37, 38, 39, 40, 41, 42, 43, 44, 45, 46, 47, 48, 49, 50, 51, 52, 53, 54, 55, 56, 57, 58, 59, 60, 61, 62, 63, 64, 65, 66, 67, 68, 69, 70, 71, 72, 73, 74, 75, 76, 77, 78, 79, 80, 81, 82, 83, 84, 85, 86, 87, 88, 89, 90, 91, 92, 93, 94, 95, 96, 97, 98, 99, 100, 101, 102, 103, 104, 105, 106, 107, 108, 109, 110, 111, 112, 113, 114, 115, 116, 117, 118, 119, 120, 121, 122, 123, 124, 125, 126, 127, 128, 129, 130, 131, 132, 133, 134, 135, 136, 137, 138, 139, 140, 141, 142, 143, 144, 145, 146, 147, 148, 149, 150, 151, 152, 153, 154, 155, 156, 157] (by decide +kernel) (by decide +kernel)) (goodIn_sub (fun _ h => List.mem_cons_of_mem _ (List.mem_append_right _ h)) (by decide +kernel))
set_option maxRecDepth 20000 in
theorem gL_rows_X9_rows : GoodIn wsL_rows (wsV RL 54 RX9 yX9_rows wsX9_rows) := goodIn_app (goodIn_of _ (by decide +kernel)) ggL_rows_X9_rows
theorem dL_rows_0 : decode cL_rows 0 = .ok (.aload 4, 2) := by decide +kernel
theorem dL_rows_2 : decode cL_rows 2 = .ok (.iconst 0, 1) := by decide +kernel
theorem dL_rows_3 : decode cL_rows 3 = .ok (.aload_n 0, 1) := by decide +kernel
theorem dL_rows_4 : decode cL_rows 4 = .ok (.lload_n 1, 1) := by decide +kernel
theorem dL_rows_5 : decode cL_rows 5 = .ok (.iload_n 3, 1) := by decide +kernel
theorem dL_rows_6 : decode cL_rows 6 = .ok (.invokevirtual 54, 3) := by decide +kernel
theorem dL_rows_9 : decode cL_rows 9 = .ok (.i2l, 1) := by decide +kernel
theorem dL_rows_10 : decode cL_rows 10 = .ok (.lastore, 1) := by decide +kernel
theorem dL_rows_11 : decode cL_rows 11 = .ok (.goto 7, 3) := by decide +kernel
theorem dL_rows_14 : decode cL_rows 14 = .ok (.astore 5, 2) := by decide +kernel
theorem dL_rows_16 : decode cL_rows 16 = .ok (.iconst 1, 1) := by decide +kernel
theorem dL_rows_17 : decode cL_rows 17 = .ok (.ireturn, 1) := by decide +kernel
theorem dL_rows_18 : decode cL_rows 18 = .ok (.iconst 0, 1) := by decide +kernel
theorem dL_rows_19 : decode cL_rows 19 = .ok (.ireturn, 1) := by decide +kernel
set_option maxRecDepth 20000 in
theorem ggL_treeDepth_X9_treeDepth : GoodIn wsL_treeDepth wsX9_treeDepth := goodIn_ca (goodIn_r _ [6, 7, 8, 9, 5, 10, 11, 12, 13, 14, 15, 16, 17, 18, 19, 20, 21, 22, 23, 24, 25, 26, 27, 28, 29, 30, 31, 32, 33, 34, 35, 36, 37, 38, 39, 40, 41, 42, 43, 44, 45, 46, 47, 48, 49, 50, 51, 52, 53, 54, 55, 56, 57, 58, 59, 60, 61, 62, 63, 64, 65, 66, 67, 68, 69] (by decide +kernel) (by decide +kernel)) (goodIn_sub (fun _ h => List.mem_cons_of_mem _ (List.mem_append_right _ h)) (by decide +kernel))
set_option maxRecDepth 20000 in
theorem gL_treeDepth_X9_treeDepth : GoodIn wsL_treeDepth (wsV RL 57 RX9 yX9_treeDepth wsX9_treeDepth) := goodIn_app (goodIn_of _ (by decide +kernel)) ggL_treeDepth_X9_treeDepth
theorem dL_treeDepth_0 : decode cL_treeDepth 0 = .ok (.aload_n 3, 1) := by decide +kernel
theorem dL_treeDepth_1 : decode cL_treeDepth 1 = .ok (.iconst 0, 1) := by decide +kernel
theorem dL_treeDepth_2 : decode cL_treeDepth 2 = .ok (.aload_n 0, 1) := by decide +kernel
theorem dL_treeDepth_3 : decode cL_treeDepth 3 = .ok (.lload_n 1, 1) := by decide +kernel
theorem dL_treeDepth_4 : decode cL_treeDepth 4 = .ok (.invokevirtual 57, 3) := by decide +kernel
theorem dL_treeDepth_7 : decode cL_treeDepth 7 = .ok (.i2l, 1) := by decide +kernel
theorem dL_treeDepth_8 : decode cL_treeDepth 8 = .ok (.lastore, 1) := by decide +kernel
theorem dL_treeDepth_9 : decode cL_treeDepth 9 = .ok (.goto 7, 3) := by decide +kernel
theorem dL_treeDepth_12 : decode cL_treeDepth 12 = .ok (.astore 4, 2) := by decide +kernel
theorem dL_treeDepth_14 : decode cL_treeDepth 14 = .ok (.iconst 1, 1) := by decide +kernel
theorem dL_treeDepth_15 : decode cL_treeDepth 15 = .ok (.ireturn, 1) := by decide +kernel
theorem dL_treeDepth_16 : decode cL_treeDepth 16 = .ok (.iconst 0, 1) := by decide +kernel
theorem dL_treeDepth_17 : decode cL_treeDepth 17 = .ok (.ireturn, 1) := by decide +kernel
set_option maxRecDepth 20000 in
theorem ggL_treeParent_X9_treeParent : GoodIn wsL_treeParent wsX9_treeParent := goodIn_ca (goodIn_r _ [6, 7, 8, 9, 10, 5, 11, 12, 13, 14, 15, 16, 17, 18, 19, 20, 21, 22, 23, 24, 25, 26, 27, 28, 29, 30, 31, 32, 33, 34, 35, 36, 37, 38, 39, 40, 41, 42, 43, 44, 45, 46, 47, 48, 49, 50, 51, 52, 53, 54, 55, 56, 57, 58, 59, 60, 61, 62, 63, 64, 65, 66, 67, 68, 69, 70] (by decide +kernel) (by decide +kernel)) (goodIn_sub (fun _ h => List.mem_cons_of_mem _ (List.mem_append_right _ h)) (by decide +kernel))
set_option maxRecDepth 20000 in
theorem gL_treeParent_X9_treeParent : GoodIn wsL_treeParent (wsV RL 60 RX9 yX9_treeParent wsX9_treeParent) := goodIn_app (goodIn_of _ (by decide +kernel)) ggL_treeParent_X9_treeParent
theorem dL_treeParent_0 : decode cL_treeParent 0 = .ok (.aload_n 3, 1) := by decide +kernel
theorem dL_treeParent_1 : decode cL_treeParent 1 = .ok (.iconst 0, 1) := by decide +kernel
theorem dL_treeParent_2 : decode cL_treeParent 2 = .ok (.aload_n 0, 1) := by decide +kernel
theorem dL_treeParent_3 : decode cL_treeParent 3 = .ok (.lload_n 1, 1) := by decide +kernel
theorem dL_treeParent_4 : decode cL_treeParent 4 = .ok (.invokevirtual 60, 3) := by decide +kernel
theorem dL_treeParent_7 : decode cL_treeParent 7 = .ok (.lastore, 1) := by decide +kernel
theorem dL_treeParent_8 : decode cL_treeParent 8 = .ok (.goto 7, 3) := by decide +kernel
theorem dL_treeParent_11 : decode cL_treeParent 11 = .ok (.astore 4, 2) := by decide +kernel
theorem dL_treeParent_13 : decode cL_treeParent 13 = .ok (.iconst 1, 1) := by decide +kernel
theorem dL_treeParent_14 : decode cL_treeParent 14 = .ok (.ireturn, 1) := by decide +kernel
theorem dL_treeParent_15 : decode cL_treeParent 15 = .ok (.iconst 0, 1) := by decide +kernel
theorem dL_treeParent_16 : decode cL_treeParent 16 = .ok (.ireturn, 1) := by decide +kernel
set_option maxRecDepth 20000 in
theorem ggL_treeCompared_X9_treeCompared : GoodIn wsL_treeCompared wsX9_treeCompared := goodIn_ca (goodIn_r _ [6, 7, 8, 9, 10, 5, 11, 12, 13, 14, 15, 16, 17, 18, 19, 20, 21, 22, 23, 24, 25, 26, 27, 28, 29, 30, 31, 32, 33, 34, 35, 36, 37, 38, 39, 40, 41, 42, 43, 44, 45, 46, 47, 48, 49, 50, 51, 52, 53, 54, 55, 56, 57, 58, 59, 60, 61, 62, 63, 64, 65, 66, 67, 68, 69, 70, 71, 72, 73, 74, 75, 76, 77, 78, 79, 80, 81, 82, 83, 84, 85, 86, 87, 88, 89, 90, 91, 92, 93, 94, 95, 96, 97, 98, 99, 100, 101, 102, 103, 104, 105, 106, 107, 108, 109, 110, 111, 112, 113, 114, 115, 116] (by decide +kernel) (by decide +kernel)) (goodIn_sub (fun _ h => List.mem_cons_of_mem _ (List.mem_append_right _ h)) (by decide +kernel))
set_option maxRecDepth 20000 in
theorem gL_treeCompared_X9_treeCompared : GoodIn wsL_treeCompared (wsV RL 64 RX9 yX9_treeCompared wsX9_treeCompared) := goodIn_app (goodIn_of _ (by decide +kernel)) ggL_treeCompared_X9_treeCompared
theorem dL_treeCompared_0 : decode cL_treeCompared 0 = .ok (.aload 4, 2) := by decide +kernel
theorem dL_treeCompared_2 : decode cL_treeCompared 2 = .ok (.iconst 0, 1) := by decide +kernel
theorem dL_treeCompared_3 : decode cL_treeCompared 3 = .ok (.aload_n 0, 1) := by decide +kernel
theorem dL_treeCompared_4 : decode cL_treeCompared 4 = .ok (.lload_n 1, 1) := by decide +kernel
theorem dL_treeCompared_5 : decode cL_treeCompared 5 = .ok (.iload_n 3, 1) := by decide +kernel
theorem dL_treeCompared_6 : decode cL_treeCompared 6 = .ok (.invokevirtual 64, 3) := by decide +kernel
theorem dL_treeCompared_9 : decode cL_treeCompared 9 = .ok (.i2l, 1) := by decide +kernel
theorem dL_treeCompared_10 : decode cL_treeCompared 10 = .ok (.lastore, 1) := by decide +kernel
theorem dL_treeCompared_11 : decode cL_treeCompared 11 = .ok (.goto 7, 3) := by decide +kernel
theorem dL_treeCompared_14 : decode cL_treeCompared 14 = .ok (.astore 5, 2) := by decide +kernel
theorem dL_treeCompared_16 : decode cL_treeCompared 16 = .ok (.iconst 1, 1) := by decide +kernel
theorem dL_treeCompared_17 : decode cL_treeCompared 17 = .ok (.ireturn, 1) := by decide +kernel
theorem dL_treeCompared_18 : decode cL_treeCompared 18 = .ok (.iconst 0, 1) := by decide +kernel
theorem dL_treeCompared_19 : decode cL_treeCompared 19 = .ok (.ireturn, 1) := by decide +kernel
set_option maxRecDepth 20000 in
theorem ggL_neighbourhood_X9_neighbourhood : GoodIn wsL_neighbourhood wsX9_neighbourhood := goodIn_ca (goodIn_r _ [6, 7, 8, 9, 5, 10, 11, 12, 13, 14, 15, 16, 17, 18, 19, 20, 21, 22, 23, 24, 25, 26, 27, 28, 29, 30, 31, 32, 33, 34, 35, 36, 37, 38, 39, 40, 41, 42, 43, 44, 45, 46, 47, 48, 49, 50, 51, 52, 53, 54, 55, 56, 57, 58, 59, 60, 61, 62, 63, 64, 65, 66, 67, 68, 69, 70, 71, 72] (by decide +kernel) (by decide +kernel)) (goodIn_sub (fun _ h => List.mem_cons_of_mem _ (List.mem_append_right _ h)) (by decide +kernel))
set_option maxRecDepth 20000 in
theorem gL_neighbourhood_X9_neighbourhood : GoodIn wsL_neighbourhood (wsV RL 67 RX9 yX9_neighbourhood wsX9_neighbourhood) := goodIn_app (goodIn_of _ (by decide +kernel)) ggL_neighbourhood_X9_neighbourhood
theorem dL_neighbourhood_0 : decode cL_neighbourhood 0 = .ok (.aload 4, 2) := by decide +kernel
theorem dL_neighbourhood_2 : decode cL_neighbourhood 2 = .ok (.iconst 0, 1) := by decide +kernel
theorem dL_neighbourhood_3 : decode cL_neighbourhood 3 = .ok (.aload_n 0, 1) := by decide +kernel
theorem dL_neighbourhood_4 : decode cL_neighbourhood 4 = .ok (.lload_n 1, 1) := by decide +kernel
theorem dL_neighbourhood_5 : decode cL_neighbourhood 5 = .ok (.iload_n 3, 1) := by decide +kernel
theorem dL_neighbourhood_6 : decode cL_neighbourhood 6 = .ok (.invokevirtual 67, 3) := by decide +kernel
theorem dL_neighbourhood_9 : decode cL_neighbourhood 9 = .ok (.i2l, 1) := by decide +kernel
theorem dL_neighbourhood_10 : decode cL_neighbourhood 10 = .ok (.lastore, 1) := by decide +kernel
theorem dL_neighbourhood_11 : decode cL_neighbourhood 11 = .ok (.goto 7, 3) := by decide +kernel
theorem dL_neighbourhood_14 : decode cL_neighbourhood 14 = .ok (.astore 5, 2) := by decide +kernel
theorem dL_neighbourhood_16 : decode cL_neighbourhood 16 = .ok (.iconst 1, 1) := by decide +kernel
theorem dL_neighbourhood_17 : decode cL_neighbourhood 17 = .ok (.ireturn, 1) := by decide +kernel
theorem dL_neighbourhood_18 : decode cL_neighbourhood 18 = .ok (.iconst 0, 1) := by decide +kernel
theorem dL_neighbourhood_19 : decode cL_neighbourhood 19 = .ok (.ireturn, 1) := by decide +kernel
set_option maxRecDepth 20000 in
theorem ggL_candidates_X9_candidates : GoodIn wsL_candidates wsX9_candidates := goodIn_ca (goodIn_r _ [6, 7, 8, 9, 5, 10, 11, 12, 13, 14, 15, 16, 17, 18, 19, 20, 21, 22, 23, 24, 25, 26, 27, 28, 29, 30, 31, 32, 33, 34, 35, 36, 37, 38, 39, 40, 41, 42, 43, 44, 45, 46, 47, 48, 49, 50, 51, 52, 53, 54, 55, 56, 57, 58, 59, 60, 61, 62, 63, 64, 65, 66, 67, 68, 69, 70, 71, 72, 73, 74, 75, 76, 77, 78, 79, 80, 81, 82, 83, 84, 85, 86, 87, 88, 89, 90, 91, 92, 93, 94, 95, 96, 97, 98, 99, 100, 101, 102, 103, 104] (by decide +kernel) (by decide +kernel)) (goodIn_sub (fun _ h => List.mem_cons_of_mem _ (List.mem_append_right _ h)) (by decide +kernel))
set_option maxRecDepth 20000 in
theorem gL_candidates_X9_candidates : GoodIn wsL_candidates (wsV RL 70 RX9 yX9_candidates wsX9_candidates) := goodIn_app (goodIn_of _ (by decide +kernel)) ggL_candidates_X9_candidates
theorem dL_candidates_0 : decode cL_candidates 0 = .ok (.aload 4, 2) := by decide +kernel
theorem dL_candidates_2 : decode cL_candidates 2 = .ok (.iconst 0, 1) := by decide +kernel
theorem dL_candidates_3 : decode cL_candidates 3 = .ok (.aload_n 0, 1) := by decide +kernel
theorem dL_candidates_4 : decode cL_candidates 4 = .ok (.lload_n 1, 1) := by decide +kernel
theorem dL_candidates_5 : decode cL_candidates 5 = .ok (.iload_n 3, 1) := by decide +kernel
theorem dL_candidates_6 : decode cL_candidates 6 = .ok (.invokevirtual 70, 3) := by decide +kernel
theorem dL_candidates_9 : decode cL_candidates 9 = .ok (.i2l, 1) := by decide +kernel
theorem dL_candidates_10 : decode cL_candidates 10 = .ok (.lastore, 1) := by decide +kernel
theorem dL_candidates_11 : decode cL_candidates 11 = .ok (.goto 7, 3) := by decide +kernel
theorem dL_candidates_14 : decode cL_candidates 14 = .ok (.astore 5, 2) := by decide +kernel
theorem dL_candidates_16 : decode cL_candidates 16 = .ok (.iconst 1, 1) := by decide +kernel
theorem dL_candidates_17 : decode cL_candidates 17 = .ok (.ireturn, 1) := by decide +kernel
theorem dL_candidates_18 : decode cL_candidates 18 = .ok (.iconst 0, 1) := by decide +kernel
theorem dL_candidates_19 : decode cL_candidates 19 = .ok (.ireturn, 1) := by decide +kernel
set_option maxRecDepth 20000 in
theorem ggL_falseCandidates_X9_falseCandidates : GoodIn wsL_falseCandidates wsX9_falseCandidates := goodIn_ca (goodIn_r _ [6, 7, 8, 9, 5, 10, 11, 12, 13, 14, 15, 16, 17, 18, 19, 20, 21, 22, 23, 24, 25, 26, 27, 28, 29, 30, 31, 32, 33, 34, 35, 36, 37, 38, 39, 40, 41, 42, 43, 44, 45, 46, 47, 48, 49, 50, 51, 52, 53, 54, 55, 56, 57, 58, 59, 60, 61, 62, 63, 64, 65, 66, 67, 68, 69, 70, 71, 72, 73, 74, 75, 76, 77, 78, 79, 80, 81, 82, 83, 84, 85, 86, 87, 88, 89, 90, 91, 92, 93, 94, 95, 96, 97, 98, 99, 100, 101, 102, 103, 104, 105, 106, 107, 108, 109, 110, 111, 112, 113, 114, 115, 116, 117, 118, 119, 120, 121, 122, 123] (by decide +kernel) (by decide +kernel)) (goodIn_sub (fun _ h => List.mem_cons_of_mem _ (List.mem_append_right _ h)) (by decide +kernel))
set_option maxRecDepth 20000 in
theorem gL_falseCandidates_X9_falseCandidates : GoodIn wsL_falseCandidates (wsV RL 73 RX9 yX9_falseCandidates wsX9_falseCandidates) := goodIn_app (goodIn_of _ (by decide +kernel)) ggL_falseCandidates_X9_falseCandidates
theorem dL_falseCandidates_0 : decode cL_falseCandidates 0 = .ok (.aload 4, 2) := by decide +kernel
theorem dL_falseCandidates_2 : decode cL_falseCandidates 2 = .ok (.iconst 0, 1) := by decide +kernel
theorem dL_falseCandidates_3 : decode cL_falseCandidates 3 = .ok (.aload_n 0, 1) := by decide +kernel
theorem dL_falseCandidates_4 : decode cL_falseCandidates 4 = .ok (.lload_n 1, 1) := by decide +kernel
theorem dL_falseCandidates_5 : decode cL_falseCandidates 5 = .ok (.iload_n 3, 1) := by decide +kernel
theorem dL_falseCandidates_6 : decode cL_falseCandidates 6 = .ok (.invokevirtual 73, 3) := by decide +kernel
theorem dL_falseCandidates_9 : decode cL_falseCandidates 9 = .ok (.i2l, 1) := by decide +kernel
theorem dL_falseCandidates_10 : decode cL_falseCandidates 10 = .ok (.lastore, 1) := by decide +kernel
theorem dL_falseCandidates_11 : decode cL_falseCandidates 11 = .ok (.goto 7, 3) := by decide +kernel
theorem dL_falseCandidates_14 : decode cL_falseCandidates 14 = .ok (.astore 5, 2) := by decide +kernel
theorem dL_falseCandidates_16 : decode cL_falseCandidates 16 = .ok (.iconst 1, 1) := by decide +kernel
theorem dL_falseCandidates_17 : decode cL_falseCandidates 17 = .ok (.ireturn, 1) := by decide +kernel
theorem dL_falseCandidates_18 : decode cL_falseCandidates 18 = .ok (.iconst 0, 1) := by decide +kernel
theorem dL_falseCandidates_19 : decode cL_falseCandidates 19 = .ok (.ireturn, 1) := by decide +kernel
set_option maxRecDepth 20000 in
theorem ggL_law_X9_init : GoodIn wsL_law wsX9_init := goodIn_r _ [10, 11, 12, 13, 14, 15, 16, 17, 18, 19, 20, 21, 22, 23, 24, 25, 26, 27, 28, 29, 30, 31, 32, 33, 34, 35, 36, 37, 38, 39, 40, 41, 42, 43, 44, 45, 46, 47, 48, 49, 50, 51, 52, 53, 54, 55, 56, 57, 58, 59, 60, 61, 62, 63, 64, 65, 6, 66, 67, 733, 712, 713, 714, 715, 716, 717, 734, 735, 736, 737, 738, 739, 740] (by decide +kernel) (by decide +kernel)
set_option maxRecDepth 20000 in
theorem gL_law_X9_init : GoodIn wsL_law (wsX9_init) := ggL_law_X9_init
set_option maxRecDepth 20000 in
theorem ggL_law_X10_init : GoodIn wsL_law wsX10_init := goodIn_r _ [70, 71, 12, 13, 6, 72, 45, 73, 74, 75, 76, 77, 78, 79, 80, 81, 82, 718, 719, 720, 721, 722, 723, 724, 725, 726, 727, 728, 729, 730, 731, 732] (by decide +kernel) (by decide +kernel)
set_option maxRecDepth 20000 in
theorem gL_law_X10_init : GoodIn wsL_law (wsX10_init) := ggL_law_X10_init
set_option maxRecDepth 20000 in
theorem ggL_law_L_add : GoodIn wsL_law wsL_add := goodIn_ca (goodIn_ca (goodIn_r _ [86, 87, 88, 89, 90, 91, 2, 92, 93, 94, 21, 95, 17, 29, 96, 97, 98, 99, 100, 101, 102, 103, 104, 105, 106, 107, 108, 109, 110, 111, 112, 12, 13, 113, 114, 115, 116, 117, 118, 119, 120, 121, 122, 123, 124, 20, 125, 51, 126, 127, 128, 28, 129, 130, 131, 132, 133, 134, 56, 135, 136, 137, 138, 139, 140, 141, 142, 143, 144, 145, 146, 147, 148, 16, 149, 41, 150, 151, 152, 153, 154, 155, 156, 40, 157, 46, 158, 159, 160, 161, 162, 163, 164, 165, 166, 167, 168, 169, 170, 171, 172, 173, 174, 175, 176, 177, 178, 179, 180, 181, 182, 183, 184, 185, 186, 187, 188, 189, 190, 191, 192, 193, 194, 195, 196, 197, 198, 199, 200, 201, 202, 203, 204, 205, 712, 713, 714, 715, 716, 717, 741, 742, 743, 744, 745, 746, 747, 748, 749, 750, 751, 734, 736, 737, 733, 740] (by decide +kernel) (by decide +kernel)) (goodIn_sub (fun _ h => List.mem_append_left _ (List.mem_append_left _ (List.mem_append_right _ h))) (by decide +kernel))) (goodIn_sub (fun _ h => List.mem_append_left _ (List.mem_append_right _ h)) (by decide +kernel))
set_option maxRecDepth 20000 in
theorem gL_law_L_add : GoodIn wsL_law (va_wsS RL 82 yL_add wsL_add) := goodIn_app (goodIn_of _ (by decide +kernel)) ggL_law_L_add
set_option maxRecDepth 20000 in
theorem ggL_law_X10_add : GoodIn wsL_law wsX10_add := goodIn_r _ [209, 210, 73, 211, 212, 213, 5, 214, 215, 216, 217, 218, 219, 220, 221, 222, 223, 72, 224, 225, 226, 227, 228, 229, 230, 231, 232, 74, 75, 233, 234, 235, 236, 78, 237, 238, 239, 240, 241, 242, 76, 77, 243, 244, 245, 246, 247, 248, 249, 250, 251, 252, 253, 718, 719, 720, 721, 722, 723, 724, 725, 726, 727, 728, 729, 730, 731, 732] (by decide +kernel) (by decide +kernel)
set_option maxRecDepth 20000 in
theorem gL_law_X10_add : GoodIn wsL_law (wsV RL 87 RX10 yX10_add wsX10_add) := goodIn_app (goodIn_of _ (by decide +kernel)) ggL_law_X10_add
set_option maxRecDepth 20000 in
theorem ggL_law_X10_thrown : GoodIn wsL_law wsX10_thrown := goodIn_r _ [257, 228, 718, 719, 720, 721, 722, 723, 724, 725, 726, 727, 728, 729, 730, 731, 732] (by decide +kernel) (by decide +kernel)
set_option maxRecDepth 20000 in
theorem gL_law_X10_thrown : GoodIn wsL_law (wsV RL 88 RX10 yX10_thrown wsX10_thrown) := goodIn_app (goodIn_of _ (by decide +kernel)) ggL_law_X10_thrown
set_option maxRecDepth 20000 in
theorem ggL_law_L_forget : GoodIn wsL_law wsL_forget := goodIn_ca (goodIn_ca (goodIn_r _ [260, 87, 88, 261, 262, 263, 2, 264, 93, 94, 21, 29, 96, 97, 98, 99, 100, 101, 102, 103, 104, 105, 106, 107, 108, 109, 110, 111, 112, 12, 13, 113, 114, 115, 116, 117, 118, 122, 123, 124, 20, 125, 51, 126, 127, 128, 28, 129, 130, 131, 132, 133, 134, 56, 265, 266, 267, 268, 712, 713, 714, 715, 716, 717, 741, 742, 743, 744, 745, 746, 747, 748, 749, 750, 751, 734, 736, 737] (by decide +kernel) (by decide +kernel)) (goodIn_sub (fun _ h => List.mem_append_left _ (List.mem_append_left _ (List.mem_append_right _ h))) (by decide +kernel))) (goodIn_sub (fun _ h => List.mem_append_left _ (List.mem_append_right _ h)) (by decide +kernel))
set_option maxRecDepth 20000 in
theorem gL_law_L_forget : GoodIn wsL_law (va_wsS RL 92 yL_forget wsL_forget) := goodIn_app (goodIn_of _ (by decide +kernel)) ggL_law_L_forget
set_option maxRecDepth 20000 in
theorem ggL_law_X10_forget : GoodIn wsL_law wsX10_forget := goodIn_r _ [272, 73, 212, 213, 5, 214, 215, 216, 217, 218, 219, 220, 221, 222, 223, 210, 72, 273, 274, 275, 276, 224, 225, 226, 227, 228, 718, 719, 720, 721, 722, 723, 724, 725, 726, 727, 728, 729, 730, 731, 732] (by decide +kernel) (by decide +kernel)
set_option maxRecDepth 20000 in
theorem gL_law_X10_forget : GoodIn wsL_law (wsV RL 95 RX10 yX10_forget wsX10_forget) := goodIn_app (goodIn_of _ (by decide +kernel)) ggL_law_X10_forget
set_option maxRecDepth 20000 in
theorem ggL_law_X9_words : GoodIn wsL_law wsX9_words := goodIn_r _ [280, 29, 281, 127, 128, 28, 129, 130, 712, 713, 714, 715, 716, 717, 736, 737] (by decide +kernel) (by decide +kernel)
set_option maxRecDepth 20000 in
theorem gL_law_X9_words : GoodIn wsL_law (wsV RL 96 RX9 yX9_words wsX9_words) := goodIn_app (goodIn_of _ (by decide +kernel)) ggL_law_X9_words
set_option maxRecDepth 20000 in
theorem ggL_law_X10_words : GoodIn wsL_law wsX10_words := goodIn_r _ [285, 228, 286, 287, 288, 5, 289, 210, 73, 718, 719, 720, 721, 722, 723, 724, 725, 726, 727, 728, 729, 730, 731, 732] (by decide +kernel) (by decide +kernel)
set_option maxRecDepth 20000 in
theorem gL_law_X10_words : GoodIn wsL_law (wsV RL 99 RX10 yX10_words wsX10_words) := goodIn_app (goodIn_of _ (by decide +kernel)) ggL_law_X10_words
set_option maxRecDepth 20000 in
theorem ggL_law_L_count : GoodIn wsL_law wsL_count := goodIn_ca (goodIn_r _ [292, 87, 293, 294, 295, 2, 296, 21, 96, 97, 98, 99, 100, 101, 102, 103, 104, 105, 106, 107, 108, 109, 110, 111, 112, 12, 13, 113, 114, 115, 116, 117, 118, 122, 123, 124, 20, 125, 51, 126, 127, 128, 28, 129, 130, 131, 132, 133, 134, 56, 712, 713, 714, 715, 716, 717, 741, 742, 743, 744, 745, 746, 747, 748, 749, 750, 751, 734, 736, 737] (by decide +kernel) (by decide +kernel)) (goodIn_sub (fun _ h => List.mem_append_left _ (List.mem_append_right _ h)) (by decide +kernel))
set_option maxRecDepth 20000 in
theorem gL_law_L_count : GoodIn wsL_law (va_wsS RL 100 yL_count wsL_count) := goodIn_app (goodIn_of _ (by decide +kernel)) ggL_law_L_count
set_option maxRecDepth 20000 in
theorem ggL_law_X10_count : GoodIn wsL_law wsX10_count := goodIn_r _ [300, 73, 212, 213, 5, 214, 215, 216, 217, 218, 219, 224, 225, 226, 227, 228, 220, 221, 222, 223, 210, 72, 718, 719, 720, 721, 722, 723, 724, 725, 726, 727, 728, 729, 730, 731, 732] (by decide +kernel) (by decide +kernel)
set_option maxRecDepth 20000 in
theorem gL_law_X10_count : GoodIn wsL_law (wsV RL 102 RX10 yX10_count wsX10_count) := goodIn_app (goodIn_of _ (by decide +kernel)) ggL_law_X10_count
set_option maxRecDepth 20000 in
theorem ggL_law_L_wordAt : GoodIn wsL_law wsL_wordAt := goodIn_ca (goodIn_r _ [303, 304, 305, 306, 307, 2, 308, 29, 309, 310, 311, 312, 313, 314, 132, 133, 28, 134, 130, 56, 712, 713, 714, 715, 716, 717, 741, 742, 743, 744, 745, 746, 747, 748, 749, 750, 751, 736, 737] (by decide +kernel) (by decide +kernel)) (goodIn_sub (fun _ h => List.mem_append_right _ h) (by decide +kernel))
set_option maxRecDepth 20000 in
theorem gL_law_L_wordAt : GoodIn wsL_law (va_wsS RL 103 yL_wordAt wsL_wordAt) := goodIn_app (goodIn_of _ (by decide +kernel)) ggL_law_L_wordAt
set_option maxRecDepth 20000 in
theorem ggL_law_X10_wordAt : GoodIn wsL_law wsX10_wordAt := goodIn_r _ [318, 210, 73, 72, 286, 287, 288, 5, 289, 224, 225, 226, 227, 228, 319, 320, 321, 215, 217, 218, 219, 718, 719, 720, 721, 722, 723, 724, 725, 726, 727, 728, 729, 730, 731, 732] (by decide +kernel) (by decide +kernel)
set_option maxRecDepth 20000 in
theorem gL_law_X10_wordAt : GoodIn wsL_law (wsV RL 106 RX10 yX10_wordAt wsX10_wordAt) := goodIn_app (goodIn_of _ (by decide +kernel)) ggL_law_X10_wordAt
set_option maxRecDepth 20000 in
theorem ggL_law_L_distance : GoodIn wsL_law wsL_distance := goodIn_ca (goodIn_r _ [324, 87, 325, 326, 327, 2, 328, 17, 96, 97, 98, 99, 100, 101, 102, 103, 104, 105, 106, 107, 108, 109, 110, 111, 112, 12, 13, 113, 114, 115, 116, 117, 118, 329, 147, 148, 16, 149, 41, 150, 151, 152, 153, 154, 155, 156, 40, 157, 46, 158, 159, 160, 161, 162, 163, 164, 165, 166, 167, 168, 169, 170, 171, 172, 173, 174, 175, 176, 712, 713, 714, 715, 716, 717, 749, 750, 751, 733, 740] (by decide +kernel) (by decide +kernel)) (goodIn_sub (fun _ h => List.mem_append_left _ (List.mem_append_right _ h)) (by decide +kernel))
set_option maxRecDepth 20000 in
theorem gL_law_L_distance : GoodIn wsL_law (va_wsS RL 107 yL_distance wsL_distance) := goodIn_app (goodIn_of _ (by decide +kernel)) ggL_law_L_distance
set_option maxRecDepth 20000 in
theorem ggL_law_X10_distance : GoodIn wsL_law wsX10_distance := goodIn_r _ [333, 212, 213, 5, 214, 215, 216, 217, 218, 219, 224, 225, 226, 227, 228, 233, 234, 235, 236, 78, 237, 238, 239, 240, 241, 242, 76, 77, 243, 244, 245, 246, 247, 248, 249, 250, 251, 252, 253, 718, 719, 720, 721, 722, 723, 724, 725, 726, 727, 728, 729, 730, 731, 732] (by decide +kernel) (by decide +kernel)
set_option maxRecDepth 20000 in
theorem gL_law_X10_distance : GoodIn wsL_law (wsV RL 110 RX10 yX10_distance wsX10_distance) := goodIn_app (goodIn_of _ (by decide +kernel)) ggL_law_X10_distance
set_option maxRecDepth 20000 in
theorem ggL_law_L_price : GoodIn wsL_law wsL_price := goodIn_ca (goodIn_r _ [336, 87, 337, 338, 339, 2, 340, 17, 96, 97, 98, 99, 100, 101, 102, 103, 104, 105, 106, 107, 108, 109, 110, 111, 112, 12, 13, 113, 114, 115, 116, 117, 118, 341, 342, 343, 16, 344, 41, 345, 346, 347, 348, 169, 170, 171, 172, 173, 174, 175, 40, 176, 46, 158, 159, 160, 349, 350, 351, 161, 162, 163, 164, 352, 353, 354, 355, 356, 357, 358, 359, 360, 361, 362, 363, 364, 365, 366, 154, 155, 156, 157, 712, 713, 714, 715, 716, 717, 749, 750, 751, 733, 740] (by decide +kernel) (by decide +kernel)) (goodIn_sub (fun _ h => List.mem_append_left _ (List.mem_append_right _ h)) (by decide +kernel))
set_option maxRecDepth 20000 in
theorem gL_law_L_price : GoodIn wsL_law (va_wsS RL 111 yL_price wsL_price) := goodIn_app (goodIn_of _ (by decide +kernel)) ggL_law_L_price
set_option maxRecDepth 20000 in
theorem ggL_law_X10_price : GoodIn wsL_law wsX10_price := goodIn_r _ [370, 212, 213, 5, 214, 215, 216, 217, 218, 219, 224, 225, 226, 227, 228, 371, 372, 373, 374, 237, 238, 78, 243, 244, 245, 246, 76, 247, 248, 249, 250, 77, 375, 376, 377, 378, 251, 252, 253, 379, 380, 381, 382, 79, 718, 719, 720, 721, 722, 723, 724, 725, 726, 727, 728, 729, 730, 731, 732] (by decide +kernel) (by decide +kernel)
set_option maxRecDepth 20000 in
theorem gL_law_X10_price : GoodIn wsL_law (wsV RL 113 RX10 yX10_price wsX10_price) := goodIn_app (goodIn_of _ (by decide +kernel)) ggL_law_X10_price
set_option maxRecDepth 20000 in
theorem ggL_law_L_areNeighbours : GoodIn wsL_law wsL_areNeighbours := goodIn_ca (goodIn_r _ [385, 87, 386, 387, 388, 2, 389, 119, 120, 121, 99, 100, 390, 356, 357, 358, 359, 360, 361, 362, 363] (by decide +kernel) (by decide +kernel)) (goodIn_sub (fun _ h => List.mem_append_left _ (List.mem_append_right _ h)) (by decide +kernel))
set_option maxRecDepth 20000 in
theorem gL_law_L_areNeighbours : GoodIn wsL_law (va_wsS RL 114 yL_areNeighbours wsL_areNeighbours) := goodIn_app (goodIn_of _ (by decide +kernel)) ggL_law_L_areNeighbours
set_option maxRecDepth 20000 in
theorem ggL_law_X10_areNeighbours : GoodIn wsL_law wsX10_areNeighbours := goodIn_r _ [394, 395, 396, 5, 397, 224, 225, 226, 227, 228, 379, 380, 381, 382, 79, 718, 719, 720, 721, 722, 723, 724, 725, 726, 727, 728, 729, 730, 731, 732] (by decide +kernel) (by decide +kernel)
set_option maxRecDepth 20000 in
theorem gL_law_X10_areNeighbours : GoodIn wsL_law (wsV RL 117 RX10 yX10_areNeighbours wsX10_areNeighbours) := goodIn_app (goodIn_of _ (by decide +kernel)) ggL_law_X10_areNeighbours
set_option maxRecDepth 20000 in
theorem ggL_law_L_corrections : GoodIn wsL_law wsL_corrections := goodIn_ca (goodIn_r _ [400, 87, 401, 402, 403, 2, 404, 30, 96, 97, 98, 99, 100, 101, 102, 103, 104, 105, 106, 107, 108, 109, 110, 111, 112, 12, 13, 113, 114, 115, 116, 117, 118, 119, 120, 121, 405, 406, 407, 408, 29, 17, 409, 410, 411, 28, 412, 130, 281, 127, 128, 129, 314, 132, 133, 134, 56, 413, 414, 415, 416, 329, 147, 148, 16, 149, 41, 150, 151, 152, 153, 154, 155, 156, 40, 157, 46, 158, 159, 160, 161, 162, 163, 164, 165, 166, 167, 168, 169, 170, 171, 172, 173, 174, 175, 176, 341, 342, 343, 344, 345, 346, 347, 348, 349, 350, 351, 352, 353, 354, 355, 356, 357, 358, 359, 360, 361, 362, 363, 364, 365, 366, 417, 418, 419, 420, 201, 421, 422, 423, 145, 424, 425, 426, 427, 203, 204, 205, 185, 193, 194, 195, 196, 712, 713, 714, 715, 716, 717, 749, 750, 751, 741, 742, 743, 744, 745, 746, 747, 748, 736, 737, 733, 740] (by decide +kernel) (by decide +kernel)) (goodIn_sub (fun _ h => List.mem_append_left _ (List.mem_append_right _ h)) (by decide +kernel))
set_option maxRecDepth 20000 in
theorem gL_law_L_corrections : GoodIn wsL_law (va_wsS RL 118 yL_corrections wsL_corrections) := goodIn_app (goodIn_of _ (by decide +kernel)) ggL_law_L_corrections
set_option maxRecDepth 20000 in
theorem ggL_law_X10_corrections : GoodIn wsL_law wsX10_corrections := goodIn_r _ [431, 432, 433, 5, 434, 212, 213, 214, 215, 216, 217, 218, 219, 224, 225, 226, 227, 228, 435, 436, 437, 438, 210, 439, 440, 441, 442, 73, 72, 233, 234, 235, 236, 78, 237, 238, 239, 240, 241, 242, 76, 77, 243, 244, 245, 246, 247, 248, 249, 250, 251, 252, 253, 718, 719, 720, 721, 722, 723, 724, 725, 726, 727, 728, 729, 730, 731, 732] (by decide +kernel) (by decide +kernel)
set_option maxRecDepth 20000 in
theorem gL_law_X10_corrections : GoodIn wsL_law (wsV RL 120 RX10 yX10_corrections wsX10_corrections) := goodIn_app (goodIn_of _ (by decide +kernel)) ggL_law_X10_corrections
set_option maxRecDepth 20000 in
theorem ggL_law_L_correction : GoodIn wsL_law wsL_correction := goodIn_ca (goodIn_ca (goodIn_r _ [445, 87, 304, 446, 447, 448, 2, 449, 30, 96, 97, 98, 99, 100, 101, 102, 103, 104, 105, 106, 107, 108, 109, 110, 111, 112, 12, 13, 113, 114, 115, 116, 117, 118, 119, 120, 121, 405, 406, 407, 408, 29, 17, 409, 410, 411, 28, 412, 130, 281, 127, 128, 129, 314, 132, 133, 134, 56, 413, 414, 415, 416, 329, 147, 148, 16, 149, 41, 150, 151, 152, 153, 154, 155, 156, 40, 157, 46, 158, 159, 160, 161, 162, 163, 164, 165, 166, 167, 168, 169, 170, 171, 172, 173, 174, 175, 176, 341, 342, 343, 344, 345, 346, 347, 348, 349, 350, 351, 352, 353, 354, 355, 356, 357, 358, 359, 360, 361, 362, 363, 364, 365, 366, 417, 418, 419, 420, 201, 421, 422, 423, 145, 424, 425, 426, 427, 203, 204, 205, 185, 193, 194, 195, 196, 309, 310, 311, 312, 313, 712, 713, 714, 715, 716, 717, 749, 750, 751, 741, 742, 743, 744, 745, 746, 747, 748, 736, 737, 733, 740] (by decide +kernel) (by decide +kernel)) (goodIn_sub (fun _ h => List.mem_append_left _ (List.mem_append_right _ h)) (by decide +kernel))) (goodIn_sub (fun _ h => List.mem_append_right _ h) (by decide +kernel))
set_option maxRecDepth 20000 in
theorem gL_law_L_correction : GoodIn wsL_law (va_wsS RL 121 yL_correction wsL_correction) := goodIn_app (goodIn_of _ (by decide +kernel)) ggL_law_L_correction
set_option maxRecDepth 20000 in
theorem ggL_law_X10_correction : GoodIn wsL_law wsX10_correction := goodIn_r _ [453, 210, 72, 432, 433, 5, 434, 212, 213, 214, 215, 216, 217, 218, 219, 435, 436, 437, 438, 439, 440, 441, 442, 73, 233, 234, 235, 236, 78, 237, 238, 239, 240, 241, 242, 76, 77, 243, 244, 245, 246, 247, 248, 249, 250, 251, 252, 253, 224, 225, 226, 227, 228, 454, 455, 456, 457, 371, 372, 373, 374, 375, 376, 377, 378, 379, 380, 381, 382, 79, 319, 320, 321, 718, 719, 720, 721, 722, 723, 724, 725, 726, 727, 728, 729, 730, 731, 732] (by decide +kernel) (by decide +kernel)
set_option maxRecDepth 20000 in
theorem gL_law_X10_correction : GoodIn wsL_law (wsV RL 124 RX10 yX10_correction wsX10_correction) := goodIn_app (goodIn_of _ (by decide +kernel)) ggL_law_X10_correction
set_option maxRecDepth 20000 in
theorem ggL_law_L_nearest : GoodIn wsL_law wsL_nearest := goodIn_ca (goodIn_r _ [460, 87, 461, 462, 463, 2, 464, 29, 17, 465, 170, 171, 172, 96, 97, 98, 99, 100, 101, 102, 103, 104, 105, 106, 107, 108, 109, 110, 111, 112, 12, 13, 113, 114, 115, 116, 117, 118, 281, 127, 128, 28, 129, 130, 314, 132, 133, 134, 56, 329, 147, 148, 16, 149, 41, 150, 151, 152, 153, 154, 155, 156, 40, 157, 46, 158, 159, 160, 161, 162, 163, 164, 165, 166, 167, 168, 169, 173, 174, 175, 176, 712, 713, 714, 715, 716, 717, 741, 742, 743, 744, 745, 746, 747, 748, 749, 750, 751, 736, 737, 733, 740] (by decide +kernel) (by decide +kernel)) (goodIn_sub (fun _ h => List.mem_append_left _ (List.mem_append_right _ h)) (by decide +kernel))
set_option maxRecDepth 20000 in
theorem gL_law_L_nearest : GoodIn wsL_law (va_wsS RL 125 yL_nearest wsL_nearest) := goodIn_app (goodIn_of _ (by decide +kernel)) ggL_law_L_nearest
set_option maxRecDepth 20000 in
theorem ggL_law_X10_nearest : GoodIn wsL_law wsX10_nearest := goodIn_r _ [469, 210, 72, 73, 212, 213, 5, 214, 215, 216, 217, 218, 219, 224, 225, 226, 227, 228, 233, 234, 235, 236, 78, 237, 238, 239, 240, 241, 242, 76, 77, 243, 244, 245, 246, 247, 248, 249, 250, 251, 252, 253, 718, 719, 720, 721, 722, 723, 724, 725, 726, 727, 728, 729, 730, 731, 732] (by decide +kernel) (by decide +kernel)
set_option maxRecDepth 20000 in
theorem gL_law_X10_nearest : GoodIn wsL_law (wsV RL 127 RX10 yX10_nearest wsX10_nearest) := goodIn_app (goodIn_of _ (by decide +kernel)) ggL_law_X10_nearest
set_option maxRecDepth 20000 in
theorem ggL_law_X9_trieNodes : GoodIn wsL_law wsX9_trieNodes := goodIn_r _ [473, 29, 474, 475, 24, 476, 477, 127, 128, 28, 129, 130, 478, 132, 133, 134, 56, 479, 480, 481, 482, 483, 484, 103, 485, 114, 486, 162, 163, 164, 113, 107, 712, 713, 714, 715, 716, 717, 741, 742, 743, 744, 745, 746, 747, 748, 749, 750, 751, 736, 737] (by decide +kernel) (by decide +kernel)
set_option maxRecDepth 20000 in
theorem gL_law_X9_trieNodes : GoodIn wsL_law (wsV RL 128 RX9 yX9_trieNodes wsX9_trieNodes) := goodIn_app (goodIn_of _ (by decide +kernel)) ggL_law_X9_trieNodes
set_option maxRecDepth 20000 in
theorem ggL_law_X10_trieNodes : GoodIn wsL_law wsX10_trieNodes := goodIn_r _ [490, 228, 210, 491, 492, 493, 5, 494, 73, 72, 217, 218, 219, 215, 495, 496, 497, 718, 719, 720, 721, 722, 723, 724, 725, 726, 727, 728, 729, 730, 731, 732] (by decide +kernel) (by decide +kernel)
set_option maxRecDepth 20000 in
theorem gL_law_X10_trieNodes : GoodIn wsL_law (wsV RL 131 RX10 yX10_trieNodes wsX10_trieNodes) := goodIn_app (goodIn_of _ (by decide +kernel)) ggL_law_X10_trieNodes
set_option maxRecDepth 20000 in
theorem ggL_law_L_trieReached : GoodIn wsL_law wsL_trieReached := goodIn_ca (goodIn_r _ [500, 87, 501, 502, 503, 2, 504, 25, 17, 29, 96, 97, 98, 99, 100, 101, 102, 103, 104, 105, 106, 107, 108, 109, 110, 111, 112, 12, 13, 113, 114, 115, 116, 117, 118, 119, 120, 121, 505, 506, 507, 24, 508, 61, 509, 510, 511, 33, 512, 513, 514, 151, 152, 16, 153, 41, 154, 155, 156, 40, 157, 46, 158, 159, 160, 515, 516, 517, 518, 519, 520, 521, 522, 169, 170, 171, 172, 173, 174, 175, 176, 523, 524, 525, 526, 527, 528, 529, 530, 66, 531, 532, 533, 534, 477, 127, 128, 28, 129, 130, 478, 132, 133, 134, 56, 479, 480, 481, 482, 483, 484, 485, 486, 162, 163, 164, 535, 536, 537, 538, 539, 540, 166, 167, 168, 161, 712, 713, 714, 715, 716, 717, 749, 750, 751, 735, 741, 742, 743, 744, 745, 746, 747, 748, 738, 739, 733, 740, 736, 737] (by decide +kernel) (by decide +kernel)) (goodIn_sub (fun _ h => List.mem_append_left _ (List.mem_append_right _ h)) (by decide +kernel))
set_option maxRecDepth 20000 in
theorem gL_law_L_trieReached : GoodIn wsL_law (va_wsS RL 132 yL_trieReached wsL_trieReached) := goodIn_app (goodIn_of _ (by decide +kernel)) ggL_law_L_trieReached
set_option maxRecDepth 20000 in
theorem ggL_law_X10_trieReached : GoodIn wsL_law wsX10_trieReached := goodIn_r _ [544, 432, 433, 5, 434, 212, 213, 214, 215, 216, 217, 218, 219, 224, 225, 226, 227, 228, 545, 546, 547, 548, 80, 210, 72, 549, 550, 551, 552, 553, 238, 78, 237, 554, 239, 240, 241, 242, 76, 77, 243, 244, 245, 246, 247, 248, 249, 250, 251, 252, 253, 491, 492, 493, 494, 73, 495, 496, 497, 718, 719, 720, 721, 722, 723, 724, 725, 726, 727, 728, 729, 730, 731, 732] (by decide +kernel) (by decide +kernel)
set_option maxRecDepth 20000 in
theorem gL_law_X10_trieReached : GoodIn wsL_law (wsV RL 134 RX10 yX10_trieReached wsX10_trieReached) := goodIn_app (goodIn_of _ (by decide +kernel)) ggL_law_X10_trieReached
set_option maxRecDepth 20000 in
theorem ggL_law_L_rows : GoodIn wsL_law wsL_rows := goodIn_ca (goodIn_r _ [557, 87, 558, 559, 560, 2, 561, 25, 17, 29, 96, 97, 98, 99, 100, 101, 102, 103, 104, 105, 106, 107, 108, 109, 110, 111, 112, 12, 13, 113, 114, 115, 116, 117, 118, 119, 120, 121, 505, 506, 507, 24, 508, 61, 509, 510, 511, 33, 512, 513, 514, 151, 152, 16, 153, 41, 154, 155, 156, 40, 157, 46, 158, 159, 160, 515, 516, 517, 518, 519, 520, 521, 522, 169, 170, 171, 172, 173, 174, 175, 176, 523, 524, 525, 526, 527, 528, 529, 530, 66, 531, 532, 533, 534, 477, 127, 128, 28, 129, 130, 478, 132, 133, 134, 56, 479, 480, 481, 482, 483, 484, 485, 486, 162, 163, 164, 535, 536, 537, 538, 539, 540, 166, 167, 168, 161, 562, 563, 564, 565, 566, 567, 568, 569, 712, 713, 714, 715, 716, 717, 749, 750, 751, 735, 741, 742, 743, 744, 745, 746, 747, 748, 738, 739, 733, 740, 736, 737] (by decide +kernel) (by decide +kernel)) (goodIn_sub (fun _ h => List.mem_append_left _ (List.mem_append_right _ h)) (by decide +kernel))
set_option maxRecDepth 20000 in
theorem gL_law_L_rows : GoodIn wsL_law (va_wsS RL 135 yL_rows wsL_rows) := goodIn_app (goodIn_of _ (by decide +kernel)) ggL_law_L_rows
set_option maxRecDepth 20000 in
theorem ggL_law_X10_rows : GoodIn wsL_law wsX10_rows := goodIn_r _ [573, 80, 432, 433, 5, 434, 212, 213, 214, 215, 216, 217, 218, 219, 224, 225, 226, 227, 228, 545, 546, 547, 548, 210, 72, 549, 550, 551, 552, 553, 238, 78, 237, 554, 239, 240, 241, 242, 76, 77, 243, 244, 245, 246, 247, 248, 249, 250, 251, 252, 253, 491, 492, 493, 494, 73, 495, 496, 497, 718, 719, 720, 721, 722, 723, 724, 725, 726, 727, 728, 729, 730, 731, 732] (by decide +kernel) (by decide +kernel)
set_option maxRecDepth 20000 in
theorem gL_law_X10_rows : GoodIn wsL_law (wsV RL 137 RX10 yX10_rows wsX10_rows) := goodIn_app (goodIn_of _ (by decide +kernel)) ggL_law_X10_rows
set_option maxRecDepth 20000 in
theorem ggL_law_X9_treeNodes : GoodIn wsL_law wsX9_treeNodes := goodIn_r _ [577, 21, 578, 579, 580, 20, 581, 51, 126, 127, 128, 28, 129, 130, 712, 713, 714, 715, 716, 717, 734, 736, 737] (by decide +kernel) (by decide +kernel)
set_option maxRecDepth 20000 in
theorem gL_law_X9_treeNodes : GoodIn wsL_law (wsV RL 138 RX9 yX9_treeNodes wsX9_treeNodes) := goodIn_app (goodIn_of _ (by decide +kernel)) ggL_law_X9_treeNodes
set_option maxRecDepth 20000 in
theorem ggL_law_X10_treeNodes : GoodIn wsL_law wsX10_treeNodes := goodIn_r _ [585, 228, 210, 718, 719, 720, 721, 722, 723, 724, 725, 726, 727, 728, 729, 730, 731, 732] (by decide +kernel) (by decide +kernel)
set_option maxRecDepth 20000 in
theorem gL_law_X10_treeNodes : GoodIn wsL_law (wsV RL 141 RX10 yX10_treeNodes wsX10_treeNodes) := goodIn_app (goodIn_of _ (by decide +kernel)) ggL_law_X10_treeNodes
set_option maxRecDepth 20000 in
theorem ggL_law_L_treeDepth : GoodIn wsL_law wsL_treeDepth := goodIn_ca (goodIn_r _ [588, 87, 589, 590, 591, 2, 592, 21, 96, 97, 98, 99, 100, 101, 102, 103, 104, 105, 106, 107, 108, 109, 110, 111, 112, 12, 13, 113, 114, 115, 116, 117, 118, 122, 123, 124, 20, 125, 51, 126, 127, 128, 28, 129, 130, 131, 132, 133, 134, 56, 712, 713, 714, 715, 716, 717, 741, 742, 743, 744, 745, 746, 747, 748, 749, 750, 751, 734, 736, 737] (by decide +kernel) (by decide +kernel)) (goodIn_sub (fun _ h => List.mem_append_left _ (List.mem_append_right _ h)) (by decide +kernel))
set_option maxRecDepth 20000 in
theorem gL_law_L_treeDepth : GoodIn wsL_law (va_wsS RL 142 yL_treeDepth wsL_treeDepth) := goodIn_app (goodIn_of _ (by decide +kernel)) ggL_law_L_treeDepth
set_option maxRecDepth 20000 in
theorem ggL_law_X10_treeDepth : GoodIn wsL_law wsX10_treeDepth := goodIn_r _ [596, 74, 212, 213, 5, 214, 215, 216, 217, 218, 219, 224, 225, 226, 227, 228, 220, 221, 222, 223, 210, 72, 718, 719, 720, 721, 722, 723, 724, 725, 726, 727, 728, 729, 730, 731, 732] (by decide +kernel) (by decide +kernel)
set_option maxRecDepth 20000 in
theorem gL_law_X10_treeDepth : GoodIn wsL_law (wsV RL 144 RX10 yX10_treeDepth wsX10_treeDepth) := goodIn_app (goodIn_of _ (by decide +kernel)) ggL_law_X10_treeDepth
set_option maxRecDepth 20000 in
theorem ggL_law_L_treeParent : GoodIn wsL_law wsL_treeParent := goodIn_ca (goodIn_r _ [599, 87, 600, 601, 602, 2, 603, 21, 604, 96, 97, 98, 99, 100, 101, 102, 103, 104, 105, 106, 107, 108, 109, 110, 111, 112, 12, 13, 113, 114, 115, 116, 117, 118, 122, 123, 124, 20, 125, 51, 126, 127, 128, 28, 129, 130, 131, 132, 133, 134, 56, 712, 713, 714, 715, 716, 717, 741, 742, 743, 744, 745, 746, 747, 748, 749, 750, 751, 734, 736, 737] (by decide +kernel) (by decide +kernel)) (goodIn_sub (fun _ h => List.mem_append_left _ (List.mem_append_right _ h)) (by decide +kernel))
set_option maxRecDepth 20000 in
theorem gL_law_L_treeParent : GoodIn wsL_law (va_wsS RL 145 yL_treeParent wsL_treeParent) := goodIn_app (goodIn_of _ (by decide +kernel)) ggL_law_L_treeParent
set_option maxRecDepth 20000 in
theorem ggL_law_X10_treeParent : GoodIn wsL_law wsX10_treeParent := goodIn_r _ [608, 74, 549, 72, 212, 213, 5, 214, 215, 216, 217, 218, 219, 224, 225, 226, 227, 228, 220, 221, 222, 223, 210, 718, 719, 720, 721, 722, 723, 724, 725, 726, 727, 728, 729, 730, 731, 732] (by decide +kernel) (by decide +kernel)
set_option maxRecDepth 20000 in
theorem gL_law_X10_treeParent : GoodIn wsL_law (wsV RL 147 RX10 yX10_treeParent wsX10_treeParent) := goodIn_app (goodIn_of _ (by decide +kernel)) ggL_law_X10_treeParent
set_option maxRecDepth 20000 in
theorem ggL_law_L_treeCompared : GoodIn wsL_law wsL_treeCompared := goodIn_ca (goodIn_r _ [611, 87, 612, 613, 614, 2, 615, 21, 17, 96, 97, 98, 99, 100, 101, 102, 103, 104, 105, 106, 107, 108, 109, 110, 111, 112, 12, 13, 113, 114, 115, 116, 117, 118, 119, 120, 121, 616, 617, 618, 20, 619, 51, 126, 127, 128, 28, 129, 130, 131, 132, 133, 134, 56, 620, 621, 622, 623, 624, 171, 625, 146, 147, 148, 16, 149, 41, 150, 151, 152, 153, 154, 155, 156, 40, 157, 46, 158, 159, 160, 161, 162, 163, 164, 165, 166, 167, 168, 169, 170, 172, 173, 174, 175, 176, 712, 713, 714, 715, 716, 717, 749, 750, 751, 734, 741, 742, 743, 744, 745, 746, 747, 748, 736, 737, 733, 740] (by decide +kernel) (by decide +kernel)) (goodIn_sub (fun _ h => List.mem_append_left _ (List.mem_append_right _ h)) (by decide +kernel))
set_option maxRecDepth 20000 in
theorem gL_law_L_treeCompared : GoodIn wsL_law (va_wsS RL 148 yL_treeCompared wsL_treeCompared) := goodIn_app (goodIn_of _ (by decide +kernel)) ggL_law_L_treeCompared
set_option maxRecDepth 20000 in
theorem ggL_law_X10_treeCompared : GoodIn wsL_law wsX10_treeCompared := goodIn_r _ [629, 210, 432, 433, 5, 434, 212, 213, 214, 215, 216, 217, 218, 219, 224, 225, 226, 227, 228, 630, 631, 632, 633, 74, 75, 72, 233, 234, 235, 236, 78, 237, 238, 239, 240, 241, 242, 76, 77, 243, 244, 245, 246, 247, 248, 249, 250, 251, 252, 253, 718, 719, 720, 721, 722, 723, 724, 725, 726, 727, 728, 729, 730, 731, 732] (by decide +kernel) (by decide +kernel)
set_option maxRecDepth 20000 in
theorem gL_law_X10_treeCompared : GoodIn wsL_law (wsV RL 150 RX10 yX10_treeCompared wsX10_treeCompared) := goodIn_app (goodIn_of _ (by decide +kernel)) ggL_law_X10_treeCompared
set_option maxRecDepth 20000 in
theorem ggL_law_L_neighbourhood : GoodIn wsL_law wsL_neighbourhood := goodIn_ca (goodIn_r _ [636, 87, 637, 638, 639, 2, 640, 34, 96, 97, 98, 99, 100, 101, 102, 103, 104, 105, 106, 107, 108, 109, 110, 111, 112, 12, 13, 113, 114, 115, 116, 117, 118, 119, 120, 121, 641, 510, 511, 33, 512, 513, 642, 643, 644, 645, 646, 528, 529, 530, 66, 531, 532, 533, 534, 647, 648, 649, 650, 567, 568, 569, 712, 713, 714, 715, 716, 717, 749, 750, 751, 738, 739] (by decide +kernel) (by decide +kernel)) (goodIn_sub (fun _ h => List.mem_append_left _ (List.mem_append_right _ h)) (by decide +kernel))
set_option maxRecDepth 20000 in
theorem gL_law_L_neighbourhood : GoodIn wsL_law (va_wsS RL 151 yL_neighbourhood wsL_neighbourhood) := goodIn_app (goodIn_of _ (by decide +kernel)) ggL_law_L_neighbourhood
set_option maxRecDepth 20000 in
theorem ggL_law_X10_neighbourhood : GoodIn wsL_law wsX10_neighbourhood := goodIn_r _ [654, 432, 433, 5, 434, 212, 213, 214, 215, 216, 217, 218, 219, 224, 225, 226, 227, 228, 655, 656, 657, 658, 81, 659, 660, 661, 495, 496, 497, 662, 663, 664, 665, 718, 719, 720, 721, 722, 723, 724, 725, 726, 727, 728, 729, 730, 731, 732] (by decide +kernel) (by decide +kernel)
set_option maxRecDepth 20000 in
theorem gL_law_X10_neighbourhood : GoodIn wsL_law (wsV RL 153 RX10 yX10_neighbourhood wsX10_neighbourhood) := goodIn_app (goodIn_of _ (by decide +kernel)) ggL_law_X10_neighbourhood
set_option maxRecDepth 20000 in
theorem ggL_law_L_candidates : GoodIn wsL_law wsL_candidates := goodIn_ca (goodIn_r _ [668, 87, 669, 670, 671, 2, 672, 29, 96, 97, 98, 99, 100, 101, 102, 103, 104, 105, 106, 107, 108, 109, 110, 111, 112, 12, 13, 113, 114, 115, 116, 117, 118, 119, 120, 121, 281, 127, 128, 28, 129, 130, 314, 132, 133, 134, 56, 673, 674, 675, 676, 677, 678, 171, 679, 17, 680, 681, 682, 16, 683, 41, 684, 685, 686, 687, 688, 161, 162, 163, 164, 173, 174, 175, 40, 176, 46, 158, 159, 160, 154, 155, 156, 157, 712, 713, 714, 715, 716, 717, 749, 750, 751, 736, 737, 741, 742, 743, 744, 745, 746, 747, 748, 733, 740] (by decide +kernel) (by decide +kernel)) (goodIn_sub (fun _ h => List.mem_append_left _ (List.mem_append_right _ h)) (by decide +kernel))
set_option maxRecDepth 20000 in
theorem gL_law_L_candidates : GoodIn wsL_law (va_wsS RL 154 yL_candidates wsL_candidates) := goodIn_app (goodIn_of _ (by decide +kernel)) ggL_law_L_candidates
set_option maxRecDepth 20000 in
theorem ggL_law_X10_candidates : GoodIn wsL_law wsX10_candidates := goodIn_r _ [692, 432, 433, 5, 434, 212, 213, 214, 215, 216, 217, 218, 219, 224, 225, 226, 227, 228, 693, 694, 695, 696, 82, 81, 210, 73, 655, 656, 657, 658, 659, 660, 661, 495, 496, 497, 662, 663, 664, 665, 697, 698, 699, 700, 72, 439, 440, 441, 442, 233, 234, 235, 236, 78, 237, 238, 239, 240, 241, 242, 76, 77, 243, 244, 245, 246, 247, 248, 249, 250, 251, 252, 253, 718, 719, 720, 721, 722, 723, 724, 725, 726, 727, 728, 729, 730, 731, 732] (by decide +kernel) (by decide +kernel)
set_option maxRecDepth 20000 in
theorem gL_law_X10_candidates : GoodIn wsL_law (wsV RL 156 RX10 yX10_candidates wsX10_candidates) := goodIn_app (goodIn_of _ (by decide +kernel)) ggL_law_X10_candidates
set_option maxRecDepth 20000 in
theorem ggL_law_L_falseCandidates : GoodIn wsL_law wsL_falseCandidates := goodIn_ca (goodIn_r _ [703, 87, 704, 705, 706, 2, 707, 29, 96, 97, 98, 99, 100, 101, 102, 103, 104, 105, 106, 107, 108, 109, 110, 111, 112, 12, 13, 113, 114, 115, 116, 117, 118, 119, 120, 121, 281, 127, 128, 28, 129, 130, 314, 132, 133, 134, 56, 673, 674, 675, 676, 677, 678, 171, 679, 17, 680, 681, 682, 16, 683, 41, 684, 685, 686, 687, 688, 161, 162, 163, 164, 173, 174, 175, 40, 176, 46, 158, 159, 160, 154, 155, 156, 157, 413, 414, 415, 416, 329, 147, 148, 149, 150, 151, 152, 153, 165, 166, 167, 168, 169, 170, 172, 712, 713, 714, 715, 716, 717, 749, 750, 751, 736, 737, 741, 742, 743, 744, 745, 746, 747, 748, 733, 740] (by decide +kernel) (by decide +kernel)) (goodIn_sub (fun _ h => List.mem_append_left _ (List.mem_append_right _ h)) (by decide +kernel))
set_option maxRecDepth 20000 in
theorem gL_law_L_falseCandidates : GoodIn wsL_law (va_wsS RL 157 yL_falseCandidates wsL_falseCandidates) := goodIn_app (goodIn_of _ (by decide +kernel)) ggL_law_L_falseCandidates
set_option maxRecDepth 20000 in
theorem ggL_law_X10_falseCandidates : GoodIn wsL_law wsX10_falseCandidates := goodIn_r _ [711, 432, 433, 5, 434, 212, 213, 214, 215, 216, 217, 218, 219, 224, 225, 226, 227, 228, 693, 694, 695, 696, 82, 81, 210, 73, 655, 656, 657, 658, 659, 660, 661, 495, 496, 497, 662, 663, 664, 665, 697, 698, 699, 700, 72, 439, 440, 441, 442, 233, 234, 235, 236, 78, 237, 238, 239, 240, 241, 242, 76, 77, 243, 244, 245, 246, 247, 248, 249, 250, 251, 252, 253, 718, 719, 720, 721, 722, 723, 724, 725, 726, 727, 728, 729, 730, 731, 732] (by decide +kernel) (by decide +kernel)
set_option maxRecDepth 20000 in
theorem gL_law_X10_falseCandidates : GoodIn wsL_law (wsV RL 159 RX10 yX10_falseCandidates wsX10_falseCandidates) := goodIn_app (goodIn_of _ (by decide +kernel)) ggL_law_X10_falseCandidates
