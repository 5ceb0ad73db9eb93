/-! decode rows of the law and its helpers -/
theorem dL_cell_0 : decode cL_cell 0 = .ok (.iload_n 1, 1) := by decide +kernel
theorem dL_cell_1 : decode cL_cell 1 = .ok (.aload_n 0, 1) := by decide +kernel
theorem dL_cell_2 : decode cL_cell 2 = .ok (.arraylength, 1) := by decide +kernel
theorem dL_cell_3 : decode cL_cell 3 = .ok (.if_icmp .ge 9, 3) := by decide +kernel
theorem dL_cell_6 : decode cL_cell 6 = .ok (.aload_n 0, 1) := by decide +kernel
theorem dL_cell_7 : decode cL_cell 7 = .ok (.iload_n 1, 1) := by decide +kernel
theorem dL_cell_8 : decode cL_cell 8 = .ok (.iaload, 1) := by decide +kernel
theorem dL_cell_9 : decode cL_cell 9 = .ok (.goto 17, 3) := by decide +kernel
theorem dL_cell_12 : decode cL_cell 12 = .ok (.sipush 7919, 3) := by decide +kernel
theorem dL_cell_15 : decode cL_cell 15 = .ok (.iload_n 1, 1) := by decide +kernel
theorem dL_cell_16 : decode cL_cell 16 = .ok (.bipush 43, 2) := by decide +kernel
theorem dL_cell_18 : decode cL_cell 18 = .ok (.iadd, 1) := by decide +kernel
theorem dL_cell_19 : decode cL_cell 19 = .ok (.imul, 1) := by decide +kernel
theorem dL_cell_20 : decode cL_cell 20 = .ok (.iload_n 1, 1) := by decide +kernel
theorem dL_cell_21 : decode cL_cell 21 = .ok (.sipush 1987, 3) := by decide +kernel
theorem dL_cell_24 : decode cL_cell 24 = .ok (.iadd, 1) := by decide +kernel
theorem dL_cell_25 : decode cL_cell 25 = .ok (.imul, 1) := by decide +kernel
theorem dL_cell_26 : decode cL_cell 26 = .ok (.ireturn, 1) := by decide +kernel
theorem dL_low_0 : decode cL_low 0 = .ok (.iload_n 0, 1) := by decide +kernel
theorem dL_low_1 : decode cL_low 1 = .ok (.ldc 7, 2) := by decide +kernel
theorem dL_low_3 : decode cL_low 3 = .ok (.iand, 1) := by decide +kernel
theorem dL_low_4 : decode cL_low 4 = .ok (.iload_n 1, 1) := by decide +kernel
theorem dL_low_5 : decode cL_low 5 = .ok (.irem, 1) := by decide +kernel
theorem dL_low_6 : decode cL_low 6 = .ok (.ireturn, 1) := by decide +kernel
set_option maxRecDepth 20000 in
theorem ggL_add_X9_add : GoodIn wsL_add wsX9_add := goodIn_ca (goodIn_ca (goodIn_r _ [8, 9, 10, 11, 12, 13, 14, 15, 16, 7, 17, 18, 19, 20, 21, 22, 23, 24, 25, 26, 27, 28, 29, 30, 31, 32, 33, 34, 35, 36, 37, 38, 39, 40, 41, 42, 43, 44, 45, 46, 47, 48, 49, 50, 51, 52, 53, 54, 55, 56, 57, 58, 59, 60, 61, 62, 63, 64, 65, 66, 67, 68, 69, 70, 71, 72, 73, 74, 75, 76, 77, 78, 79, 80, 81, 82, 83, 84, 85, 86, 87, 88, 89, 90, 91, 92, 93, 94, 95, 96, 97, 98, 99, 100, 101, 102, 103, 104, 105, 106, 107, 108, 109, 110, 111, 112, 113, 114, 115, 116, 117, 118, 119, 120, 121, 122, 123, 124, 125, 126, 127, 128, 129, 130, 131, 132, 133, 134, 135, 136, 137, 138, 139, 140, 141, 142, 143, 144, 145, 146, 147, 148, 149, 150, 151, 152, 153, 154, 155, 156] (by decide +kernel) (by decide +kernel)) (goodIn_sub (fun _ h => List.mem_cons_of_mem _ (List.mem_append_left _ (List.mem_append_right _ h))) (by decide +kernel))) (goodIn_sub (fun _ h => List.mem_cons_of_mem _ (List.mem_append_right _ h)) (by decide +kernel))
set_option maxRecDepth 20000 in
theorem gL_add_X9_add : GoodIn wsL_add (wsV RL 8 RX9 yX9_add wsX9_add) := goodIn_app (goodIn_of _ (by decide +kernel)) ggL_add_X9_add
theorem dL_add_0 : decode cL_add 0 = .ok (.aload_n 0, 1) := by decide +kernel
theorem dL_add_1 : decode cL_add 1 = .ok (.lload_n 1, 1) := by decide +kernel
theorem dL_add_2 : decode cL_add 2 = .ok (.iload_n 3, 1) := by decide +kernel
theorem dL_add_3 : decode cL_add 3 = .ok (.invokevirtual 8, 3) := by decide +kernel
theorem dL_add_6 : decode cL_add 6 = .ok (.ireturn, 1) := by decide +kernel
theorem dL_add_7 : decode cL_add 7 = .ok (.astore 4, 2) := by decide +kernel
theorem dL_add_9 : decode cL_add 9 = .ok (.ldc 16, 2) := by decide +kernel
theorem dL_add_11 : decode cL_add 11 = .ok (.ireturn, 1) := by decide +kernel
theorem dL_add_12 : decode cL_add 12 = .ok (.astore 4, 2) := by decide +kernel
theorem dL_add_14 : decode cL_add 14 = .ok (.ldc 16, 2) := by decide +kernel
theorem dL_add_16 : decode cL_add 16 = .ok (.ireturn, 1) := by decide +kernel
set_option maxRecDepth 20000 in
theorem ggL_forget_X9_forget : GoodIn wsL_forget wsX9_forget := goodIn_ca (goodIn_ca (goodIn_r _ [8, 9, 10, 11, 12, 13, 14, 7, 15, 16, 17, 18, 19, 20, 21, 22, 23, 24, 25, 26, 27, 28, 29, 30, 31, 32, 33, 34, 35, 36, 37, 38, 39, 40, 41, 42, 43, 44, 45, 46, 47, 48, 49, 50, 51, 52, 53, 54, 55, 56, 57, 58, 59, 60, 61, 62, 63, 64, 65, 66, 67, 68, 69, 70, 71, 72, 73, 74, 75, 76, 77, 78] (by decide +kernel) (by decide +kernel)) (goodIn_sub (fun _ h => List.mem_cons_of_mem _ (List.mem_append_left _ (List.mem_append_right _ h))) (by decide +kernel))) (goodIn_sub (fun _ h => List.mem_cons_of_mem _ (List.mem_append_right _ h)) (by decide +kernel))
set_option maxRecDepth 20000 in
theorem gL_forget_X9_forget : GoodIn wsL_forget (wsV RL 19 RX9 yX9_forget wsX9_forget) := goodIn_app (goodIn_of _ (by decide +kernel)) ggL_forget_X9_forget
theorem dL_forget_0 : decode cL_forget 0 = .ok (.aload_n 0, 1) := by decide +kernel
theorem dL_forget_1 : decode cL_forget 1 = .ok (.lload_n 1, 1) := by decide +kernel
theorem dL_forget_2 : decode cL_forget 2 = .ok (.invokevirtual 19, 3) := by decide +kernel
theorem dL_forget_5 : decode cL_forget 5 = .ok (.ireturn, 1) := by decide +kernel
theorem dL_forget_6 : decode cL_forget 6 = .ok (.astore_n 3, 1) := by decide +kernel
theorem dL_forget_7 : decode cL_forget 7 = .ok (.ldc 16, 2) := by decide +kernel
theorem dL_forget_9 : decode cL_forget 9 = .ok (.ireturn, 1) := by decide +kernel
theorem dL_forget_10 : decode cL_forget 10 = .ok (.astore_n 3, 1) := by decide +kernel
theorem dL_forget_11 : decode cL_forget 11 = .ok (.ldc 16, 2) := by decide +kernel
theorem dL_forget_13 : decode cL_forget 13 = .ok (.ireturn, 1) := by decide +kernel
set_option maxRecDepth 20000 in
theorem ggL_word_L_low : GoodIn wsL_word wsL_low := goodIn_r _ [5, 6] (by decide +kernel) (by decide +kernel)
set_option maxRecDepth 20000 in
theorem gL_word_L_low : GoodIn wsL_word (va_wsS RL 23 yL_low wsL_low) := goodIn_app (goodIn_of _ (by decide +kernel)) ggL_word_L_low
theorem dL_word_0 : decode cL_word 0 = .ok (.iconst 1, 1) := by decide +kernel
theorem dL_word_1 : decode cL_word 1 = .ok (.iload_n 0, 1) := by decide +kernel
theorem dL_word_2 : decode cL_word 2 = .ok (.iconst 3, 1) := by decide +kernel
theorem dL_word_3 : decode cL_word 3 = .ok (.ishr, 1) := by decide +kernel
theorem dL_word_4 : decode cL_word 4 = .ok (.iload_n 1, 1) := by decide +kernel
theorem dL_word_5 : decode cL_word 5 = .ok (.ifCond .eq 8, 3) := by decide +kernel
theorem dL_word_8 : decode cL_word 8 = .ok (.bipush 12, 2) := by decide +kernel
theorem dL_word_10 : decode cL_word 10 = .ok (.goto 5, 3) := by decide +kernel
theorem dL_word_13 : decode cL_word 13 = .ok (.bipush 6, 2) := by decide +kernel
theorem dL_word_15 : decode cL_word 15 = .ok (.invokestatic 23, 3) := by decide +kernel
theorem dL_word_18 : decode cL_word 18 = .ok (.iadd, 1) := by decide +kernel
theorem dL_word_19 : decode cL_word 19 = .ok (.istore_n 2, 1) := by decide +kernel
theorem dL_word_20 : decode cL_word 20 = .ok (.lconst 0, 1) := by decide +kernel
theorem dL_word_21 : decode cL_word 21 = .ok (.lstore_n 3, 1) := by decide +kernel
theorem dL_word_22 : decode cL_word 22 = .ok (.iconst 0, 1) := by decide +kernel
theorem dL_word_23 : decode cL_word 23 = .ok (.istore 5, 2) := by decide +kernel
theorem dL_word_25 : decode cL_word 25 = .ok (.iload 5, 2) := by decide +kernel
theorem dL_word_27 : decode cL_word 27 = .ok (.iload_n 2, 1) := by decide +kernel
theorem dL_word_28 : decode cL_word 28 = .ok (.if_icmp .ge 100, 3) := by decide +kernel
theorem dL_word_31 : decode cL_word 31 = .ok (.iload_n 0, 1) := by decide +kernel
theorem dL_word_32 : decode cL_word 32 = .ok (.iload 5, 2) := by decide +kernel
theorem dL_word_34 : decode cL_word 34 = .ok (.iconst 3, 1) := by decide +kernel
theorem dL_word_35 : decode cL_word 35 = .ok (.imul, 1) := by decide +kernel
theorem dL_word_36 : decode cL_word 36 = .ok (.bipush 24, 2) := by decide +kernel
theorem dL_word_38 : decode cL_word 38 = .ok (.irem, 1) := by decide +kernel
theorem dL_word_39 : decode cL_word 39 = .ok (.ishr, 1) := by decide +kernel
theorem dL_word_40 : decode cL_word 40 = .ok (.bipush 7, 2) := by decide +kernel
theorem dL_word_42 : decode cL_word 42 = .ok (.iand, 1) := by decide +kernel
theorem dL_word_43 : decode cL_word 43 = .ok (.bipush 6, 2) := by decide +kernel
theorem dL_word_45 : decode cL_word 45 = .ok (.if_icmp .ge 16, 3) := by decide +kernel
theorem dL_word_48 : decode cL_word 48 = .ok (.iconst 1, 1) := by decide +kernel
theorem dL_word_49 : decode cL_word 49 = .ok (.iload_n 0, 1) := by decide +kernel
theorem dL_word_50 : decode cL_word 50 = .ok (.iload 5, 2) := by decide +kernel
theorem dL_word_52 : decode cL_word 52 = .ok (.ishr, 1) := by decide +kernel
theorem dL_word_53 : decode cL_word 53 = .ok (.iconst 3, 1) := by decide +kernel
theorem dL_word_54 : decode cL_word 54 = .ok (.invokestatic 23, 3) := by decide +kernel
theorem dL_word_57 : decode cL_word 57 = .ok (.iadd, 1) := by decide +kernel
theorem dL_word_58 : decode cL_word 58 = .ok (.goto 16, 3) := by decide +kernel
theorem dL_word_61 : decode cL_word 61 = .ok (.bipush 16, 2) := by decide +kernel
theorem dL_word_63 : decode cL_word 63 = .ok (.iload_n 0, 1) := by decide +kernel
theorem dL_word_64 : decode cL_word 64 = .ok (.iload 5, 2) := by decide +kernel
theorem dL_word_66 : decode cL_word 66 = .ok (.iconst 2, 1) := by decide +kernel
theorem dL_word_67 : decode cL_word 67 = .ok (.iadd, 1) := by decide +kernel
theorem dL_word_68 : decode cL_word 68 = .ok (.ishr, 1) := by decide +kernel
theorem dL_word_69 : decode cL_word 69 = .ok (.iconst 4, 1) := by decide +kernel
theorem dL_word_70 : decode cL_word 70 = .ok (.invokestatic 23, 3) := by decide +kernel
theorem dL_word_73 : decode cL_word 73 = .ok (.iadd, 1) := by decide +kernel
theorem dL_word_74 : decode cL_word 74 = .ok (.istore 6, 2) := by decide +kernel
theorem dL_word_76 : decode cL_word 76 = .ok (.ldc2_w 29, 3) := by decide +kernel
theorem dL_word_79 : decode cL_word 79 = .ok (.lload_n 3, 1) := by decide +kernel
theorem dL_word_80 : decode cL_word 80 = .ok (.lmul, 1) := by decide +kernel
theorem dL_word_81 : decode cL_word 81 = .ok (.iload_n 1, 1) := by decide +kernel
theorem dL_word_82 : decode cL_word 82 = .ok (.ifCond .eq 35, 3) := by decide +kernel
theorem dL_word_85 : decode cL_word 85 = .ok (.iload 5, 2) := by decide +kernel
theorem dL_word_87 : decode cL_word 87 = .ok (.iconst 2, 1) := by decide +kernel
theorem dL_word_88 : decode cL_word 88 = .ok (.if_icmp .ne 29, 3) := by decide +kernel
theorem dL_word_91 : decode cL_word 91 = .ok (.iload_n 0, 1) := by decide +kernel
theorem dL_word_92 : decode cL_word 92 = .ok (.bipush 20, 2) := by decide +kernel
theorem dL_word_94 : decode cL_word 94 = .ok (.ishr, 1) := by decide +kernel
theorem dL_word_95 : decode cL_word 95 = .ok (.iconst 1, 1) := by decide +kernel
theorem dL_word_96 : decode cL_word 96 = .ok (.iand, 1) := by decide +kernel
theorem dL_word_97 : decode cL_word 97 = .ok (.ifCond .ne 20, 3) := by decide +kernel
theorem dL_word_100 : decode cL_word 100 = .ok (.bipush 27, 2) := by decide +kernel
theorem dL_word_102 : decode cL_word 102 = .ok (.iload_n 0, 1) := by decide +kernel
theorem dL_word_103 : decode cL_word 103 = .ok (.iconst 4, 1) := by decide +kernel
theorem dL_word_104 : decode cL_word 104 = .ok (.ishr, 1) := by decide +kernel
theorem dL_word_105 : decode cL_word 105 = .ok (.bipush 6, 2) := by decide +kernel
theorem dL_word_107 : decode cL_word 107 = .ok (.invokestatic 23, 3) := by decide +kernel
theorem dL_word_110 : decode cL_word 110 = .ok (.bipush 6, 2) := by decide +kernel
theorem dL_word_112 : decode cL_word 112 = .ok (.irem, 1) := by decide +kernel
theorem dL_word_113 : decode cL_word 113 = .ok (.iadd, 1) := by decide +kernel
theorem dL_word_114 : decode cL_word 114 = .ok (.goto 5, 3) := by decide +kernel
theorem dL_word_117 : decode cL_word 117 = .ok (.iload 6, 2) := by decide +kernel
theorem dL_word_119 : decode cL_word 119 = .ok (.i2l, 1) := by decide +kernel
theorem dL_word_120 : decode cL_word 120 = .ok (.ladd, 1) := by decide +kernel
theorem dL_word_121 : decode cL_word 121 = .ok (.lstore_n 3, 1) := by decide +kernel
theorem dL_word_122 : decode cL_word 122 = .ok (.iinc 5 1, 3) := by decide +kernel
theorem dL_word_125 : decode cL_word 125 = .ok (.goto (-100), 3) := by decide +kernel
theorem dL_word_128 : decode cL_word 128 = .ok (.lload_n 3, 1) := by decide +kernel
theorem dL_word_129 : decode cL_word 129 = .ok (.lreturn, 1) := by decide +kernel
set_option maxRecDepth 20000 in
theorem ggL_areAlike_X9_words : GoodIn wsL_areAlike wsX9_words := goodIn_r _ [5, 6, 7, 8, 9, 10, 11, 12, 103, 104, 105, 106, 107, 108, 109, 110] (by decide +kernel) (by decide +kernel)
set_option maxRecDepth 20000 in
theorem gL_areAlike_X9_words : GoodIn wsL_areAlike (wsV RL 31 RX9 yX9_words wsX9_words) := goodIn_app (goodIn_of _ (by decide +kernel)) ggL_areAlike_X9_words
set_option maxRecDepth 20000 in
theorem ggL_areAlike_X9_trieNodes : GoodIn wsL_areAlike wsX9_trieNodes := goodIn_r _ [16, 6, 17, 18, 19, 20, 21, 8, 9, 10, 11, 12, 22, 23, 24, 25, 26, 27, 28, 29, 30, 31, 32, 33, 34, 35, 36, 37, 38, 39, 40, 41, 103, 104, 105, 106, 107, 108, 111, 112, 113, 114, 115, 116, 117, 118, 119, 120, 121, 109, 110] (by decide +kernel) (by decide +kernel)
set_option maxRecDepth 20000 in
theorem gL_areAlike_X9_trieNodes : GoodIn wsL_areAlike (wsV RL 35 RX9 yX9_trieNodes wsX9_trieNodes) := goodIn_app (goodIn_of _ (by decide +kernel)) ggL_areAlike_X9_trieNodes
set_option maxRecDepth 20000 in
theorem ggL_areAlike_X9_treeNodes : GoodIn wsL_areAlike wsX9_treeNodes := goodIn_r _ [45, 46, 47, 48, 49, 50, 51, 52, 53, 8, 9, 10, 11, 12, 103, 104, 105, 106, 107, 108, 122, 109, 110] (by decide +kernel) (by decide +kernel)
set_option maxRecDepth 20000 in
theorem gL_areAlike_X9_treeNodes : GoodIn wsL_areAlike (wsV RL 38 RX9 yX9_treeNodes wsX9_treeNodes) := goodIn_app (goodIn_of _ (by decide +kernel)) ggL_areAlike_X9_treeNodes
set_option maxRecDepth 20000 in
theorem ggL_areAlike_X9_wordAt : GoodIn wsL_areAlike wsX9_wordAt := goodIn_ca (goodIn_r _ [57, 6, 58, 59, 4, 60, 61, 62, 63, 23, 24, 10, 25, 12, 26, 103, 104, 105, 106, 107, 108, 111, 112, 113, 114, 115, 116, 117, 118, 119, 120, 121, 109, 110] (by decide +kernel) (by decide +kernel)) (goodIn_sub (fun _ h => List.mem_cons_of_mem _ (List.mem_append_left _ (List.mem_append_right _ h))) (by decide +kernel))
set_option maxRecDepth 20000 in
theorem gL_areAlike_X9_wordAt : GoodIn wsL_areAlike (wsV RL 41 RX9 yX9_wordAt wsX9_wordAt) := goodIn_app (goodIn_of _ (by decide +kernel)) ggL_areAlike_X9_wordAt
set_option maxRecDepth 20000 in
theorem ggL_areAlike_X9_count : GoodIn wsL_areAlike wsX9_count := goodIn_ca (goodIn_r _ [67, 46, 68, 69, 4, 70, 71, 72, 73, 74, 33, 75, 76, 77, 41, 78, 79, 80, 81, 82, 83, 84, 40, 35, 85, 86, 87, 88, 89, 90, 91, 50, 92, 52, 53, 8, 9, 10, 11, 12, 93, 23, 24, 25, 26, 103, 104, 105, 106, 107, 108, 111, 112, 113, 114, 115, 116, 117, 118, 119, 120, 121, 122, 109, 110] (by decide +kernel) (by decide +kernel)) (goodIn_sub (fun _ h => List.mem_cons_of_mem _ (List.mem_append_right _ h)) (by decide +kernel))
set_option maxRecDepth 20000 in
theorem gL_areAlike_X9_count : GoodIn wsL_areAlike (wsV RL 45 RX9 yX9_count wsX9_count) := goodIn_app (goodIn_of _ (by decide +kernel)) ggL_areAlike_X9_count
set_option maxRecDepth 20000 in
theorem ggL_areAlike_X9_treeDepth : GoodIn wsL_areAlike wsX9_treeDepth := goodIn_ca (goodIn_r _ [97, 46, 68, 69, 4, 70, 71, 72, 73, 74, 33, 75, 76, 77, 41, 78, 79, 80, 81, 82, 83, 84, 40, 35, 85, 86, 87, 88, 89, 90, 91, 50, 92, 52, 53, 8, 9, 10, 11, 12, 93, 23, 24, 25, 26, 103, 104, 105, 106, 107, 108, 111, 112, 113, 114, 115, 116, 117, 118, 119, 120, 121, 122, 109, 110] (by decide +kernel) (by decide +kernel)) (goodIn_sub (fun _ h => List.mem_cons_of_mem _ (List.mem_append_right _ h)) (by decide +kernel))
set_option maxRecDepth 20000 in
theorem gL_areAlike_X9_treeDepth : GoodIn wsL_areAlike (wsV RL 48 RX9 yX9_treeDepth wsX9_treeDepth) := goodIn_app (goodIn_of _ (by decide +kernel)) ggL_areAlike_X9_treeDepth
set_option maxRecDepth 20000 in
theorem ggL_areAlike_X9_treeParent : GoodIn wsL_areAlike wsX9_treeParent := goodIn_ca (goodIn_r _ [101, 46, 102, 68, 69, 4, 70, 71, 72, 73, 74, 33, 75, 76, 77, 41, 78, 79, 80, 81, 82, 83, 84, 40, 35, 85, 86, 87, 88, 89, 90, 91, 50, 92, 52, 53, 8, 9, 10, 11, 12, 93, 23, 24, 25, 26, 103, 104, 105, 106, 107, 108, 111, 112, 113, 114, 115, 116, 117, 118, 119, 120, 121, 122, 109, 110] (by decide +kernel) (by decide +kernel)) (goodIn_sub (fun _ h => List.mem_cons_of_mem _ (List.mem_append_right _ h)) (by decide +kernel))
set_option maxRecDepth 20000 in
theorem gL_areAlike_X9_treeParent : GoodIn wsL_areAlike (wsV RL 51 RX9 yX9_treeParent wsX9_treeParent) := goodIn_app (goodIn_of _ (by decide +kernel)) ggL_areAlike_X9_treeParent
theorem dL_areAlike_0 : decode cL_areAlike 0 = .ok (.aload_n 0, 1) := by decide +kernel
theorem dL_areAlike_1 : decode cL_areAlike 1 = .ok (.invokevirtual 31, 3) := by decide +kernel
theorem dL_areAlike_4 : decode cL_areAlike 4 = .ok (.aload_n 1, 1) := by decide +kernel
theorem dL_areAlike_5 : decode cL_areAlike 5 = .ok (.invokevirtual 31, 3) := by decide +kernel
theorem dL_areAlike_8 : decode cL_areAlike 8 = .ok (.if_icmp .ne 29, 3) := by decide +kernel
theorem dL_areAlike_11 : decode cL_areAlike 11 = .ok (.aload_n 0, 1) := by decide +kernel
theorem dL_areAlike_12 : decode cL_areAlike 12 = .ok (.invokevirtual 35, 3) := by decide +kernel
theorem dL_areAlike_15 : decode cL_areAlike 15 = .ok (.aload_n 1, 1) := by decide +kernel
theorem dL_areAlike_16 : decode cL_areAlike 16 = .ok (.invokevirtual 35, 3) := by decide +kernel
theorem dL_areAlike_19 : decode cL_areAlike 19 = .ok (.if_icmp .ne 18, 3) := by decide +kernel
theorem dL_areAlike_22 : decode cL_areAlike 22 = .ok (.aload_n 0, 1) := by decide +kernel
theorem dL_areAlike_23 : decode cL_areAlike 23 = .ok (.invokevirtual 38, 3) := by decide +kernel
theorem dL_areAlike_26 : decode cL_areAlike 26 = .ok (.aload_n 1, 1) := by decide +kernel
theorem dL_areAlike_27 : decode cL_areAlike 27 = .ok (.invokevirtual 38, 3) := by decide +kernel
theorem dL_areAlike_30 : decode cL_areAlike 30 = .ok (.if_icmp .ne 7, 3) := by decide +kernel
theorem dL_areAlike_33 : decode cL_areAlike 33 = .ok (.iconst 1, 1) := by decide +kernel
theorem dL_areAlike_34 : decode cL_areAlike 34 = .ok (.goto 4, 3) := by decide +kernel
theorem dL_areAlike_37 : decode cL_areAlike 37 = .ok (.iconst 0, 1) := by decide +kernel
theorem dL_areAlike_38 : decode cL_areAlike 38 = .ok (.istore_n 2, 1) := by decide +kernel
theorem dL_areAlike_39 : decode cL_areAlike 39 = .ok (.iconst 0, 1) := by decide +kernel
theorem dL_areAlike_40 : decode cL_areAlike 40 = .ok (.istore_n 3, 1) := by decide +kernel
theorem dL_areAlike_41 : decode cL_areAlike 41 = .ok (.iload_n 3, 1) := by decide +kernel
theorem dL_areAlike_42 : decode cL_areAlike 42 = .ok (.aload_n 0, 1) := by decide +kernel
theorem dL_areAlike_43 : decode cL_areAlike 43 = .ok (.invokevirtual 31, 3) := by decide +kernel
theorem dL_areAlike_46 : decode cL_areAlike 46 = .ok (.if_icmp .ge 83, 3) := by decide +kernel
theorem dL_areAlike_49 : decode cL_areAlike 49 = .ok (.iload_n 2, 1) := by decide +kernel
theorem dL_areAlike_50 : decode cL_areAlike 50 = .ok (.ifCond .eq 79, 3) := by decide +kernel
theorem dL_areAlike_53 : decode cL_areAlike 53 = .ok (.aload_n 0, 1) := by decide +kernel
theorem dL_areAlike_54 : decode cL_areAlike 54 = .ok (.iload_n 3, 1) := by decide +kernel
theorem dL_areAlike_55 : decode cL_areAlike 55 = .ok (.invokevirtual 41, 3) := by decide +kernel
theorem dL_areAlike_58 : decode cL_areAlike 58 = .ok (.lstore 4, 2) := by decide +kernel
theorem dL_areAlike_60 : decode cL_areAlike 60 = .ok (.aload_n 1, 1) := by decide +kernel
theorem dL_areAlike_61 : decode cL_areAlike 61 = .ok (.iload_n 3, 1) := by decide +kernel
theorem dL_areAlike_62 : decode cL_areAlike 62 = .ok (.invokevirtual 41, 3) := by decide +kernel
theorem dL_areAlike_65 : decode cL_areAlike 65 = .ok (.lload 4, 2) := by decide +kernel
theorem dL_areAlike_67 : decode cL_areAlike 67 = .ok (.lcmp, 1) := by decide +kernel
theorem dL_areAlike_68 : decode cL_areAlike 68 = .ok (.ifCond .ne 53, 3) := by decide +kernel
theorem dL_areAlike_71 : decode cL_areAlike 71 = .ok (.aload_n 0, 1) := by decide +kernel
theorem dL_areAlike_72 : decode cL_areAlike 72 = .ok (.lload 4, 2) := by decide +kernel
theorem dL_areAlike_74 : decode cL_areAlike 74 = .ok (.invokevirtual 45, 3) := by decide +kernel
theorem dL_areAlike_77 : decode cL_areAlike 77 = .ok (.aload_n 1, 1) := by decide +kernel
theorem dL_areAlike_78 : decode cL_areAlike 78 = .ok (.lload 4, 2) := by decide +kernel
theorem dL_areAlike_80 : decode cL_areAlike 80 = .ok (.invokevirtual 45, 3) := by decide +kernel
theorem dL_areAlike_83 : decode cL_areAlike 83 = .ok (.if_icmp .ne 38, 3) := by decide +kernel
theorem dL_areAlike_86 : decode cL_areAlike 86 = .ok (.aload_n 0, 1) := by decide +kernel
theorem dL_areAlike_87 : decode cL_areAlike 87 = .ok (.lload 4, 2) := by decide +kernel
theorem dL_areAlike_89 : decode cL_areAlike 89 = .ok (.invokevirtual 48, 3) := by decide +kernel
theorem dL_areAlike_92 : decode cL_areAlike 92 = .ok (.aload_n 1, 1) := by decide +kernel
theorem dL_areAlike_93 : decode cL_areAlike 93 = .ok (.lload 4, 2) := by decide +kernel
theorem dL_areAlike_95 : decode cL_areAlike 95 = .ok (.invokevirtual 48, 3) := by decide +kernel
theorem dL_areAlike_98 : decode cL_areAlike 98 = .ok (.if_icmp .ne 23, 3) := by decide +kernel
theorem dL_areAlike_101 : decode cL_areAlike 101 = .ok (.aload_n 0, 1) := by decide +kernel
theorem dL_areAlike_102 : decode cL_areAlike 102 = .ok (.lload 4, 2) := by decide +kernel
theorem dL_areAlike_104 : decode cL_areAlike 104 = .ok (.invokevirtual 51, 3) := by decide +kernel
theorem dL_areAlike_107 : decode cL_areAlike 107 = .ok (.aload_n 1, 1) := by decide +kernel
theorem dL_areAlike_108 : decode cL_areAlike 108 = .ok (.lload 4, 2) := by decide +kernel
theorem dL_areAlike_110 : decode cL_areAlike 110 = .ok (.invokevirtual 51, 3) := by decide +kernel
theorem dL_areAlike_113 : decode cL_areAlike 113 = .ok (.lcmp, 1) := by decide +kernel
theorem dL_areAlike_114 : decode cL_areAlike 114 = .ok (.ifCond .ne 7, 3) := by decide +kernel
theorem dL_areAlike_117 : decode cL_areAlike 117 = .ok (.iconst 1, 1) := by decide +kernel
theorem dL_areAlike_118 : decode cL_areAlike 118 = .ok (.goto 4, 3) := by decide +kernel
theorem dL_areAlike_121 : decode cL_areAlike 121 = .ok (.iconst 0, 1) := by decide +kernel
theorem dL_areAlike_122 : decode cL_areAlike 122 = .ok (.istore_n 2, 1) := by decide +kernel
theorem dL_areAlike_123 : decode cL_areAlike 123 = .ok (.iinc 3 1, 3) := by decide +kernel
theorem dL_areAlike_126 : decode cL_areAlike 126 = .ok (.goto (-85), 3) := by decide +kernel
theorem dL_areAlike_129 : decode cL_areAlike 129 = .ok (.iload_n 2, 1) := by decide +kernel
theorem dL_areAlike_130 : decode cL_areAlike 130 = .ok (.ireturn, 1) := by decide +kernel
set_option maxRecDepth 20000 in
theorem ggL_areWordsSo_X9_words : GoodIn wsL_areWordsSo wsX9_words := goodIn_r _ [7, 8, 9, 10, 11, 12, 13, 14, 142, 143, 144, 145, 146, 147, 148, 149] (by decide +kernel) (by decide +kernel)
set_option maxRecDepth 20000 in
theorem gL_areWordsSo_X9_words : GoodIn wsL_areWordsSo (wsV RL 31 RX9 yX9_words wsX9_words) := goodIn_app (goodIn_of _ (by decide +kernel)) ggL_areWordsSo_X9_words
set_option maxRecDepth 20000 in
theorem ggL_areWordsSo_X9_wordAt : GoodIn wsL_areWordsSo wsX9_wordAt := goodIn_ca (goodIn_r _ [18, 8, 19, 20, 6, 21, 22, 23, 24, 25, 26, 12, 27, 14, 28, 142, 143, 144, 145, 146, 147, 150, 151, 152, 153, 154, 155, 156, 157, 158, 159, 160, 148, 149] (by decide +kernel) (by decide +kernel)) (goodIn_sub (fun _ h => List.mem_cons_of_mem _ (List.mem_append_left _ (List.mem_append_right _ h))) (by decide +kernel))
set_option maxRecDepth 20000 in
theorem gL_areWordsSo_X9_wordAt : GoodIn wsL_areWordsSo (wsV RL 41 RX9 yX9_wordAt wsX9_wordAt) := goodIn_app (goodIn_of _ (by decide +kernel)) ggL_areWordsSo_X9_wordAt
set_option maxRecDepth 20000 in
theorem ggL_areWordsSo_X9_treeParent : GoodIn wsL_areWordsSo wsX9_treeParent := goodIn_ca (goodIn_r _ [32, 33, 34, 35, 36, 6, 37, 38, 39, 40, 41, 42, 43, 44, 45, 46, 47, 48, 49, 50, 51, 52, 53, 54, 55, 56, 57, 58, 59, 60, 61, 62, 63, 64, 65, 66, 10, 11, 12, 13, 14, 67, 25, 26, 27, 28, 142, 143, 144, 145, 146, 147, 150, 151, 152, 153, 154, 155, 156, 157, 158, 159, 160, 161, 148, 149] (by decide +kernel) (by decide +kernel)) (goodIn_sub (fun _ h => List.mem_cons_of_mem _ (List.mem_append_right _ h)) (by decide +kernel))
set_option maxRecDepth 20000 in
theorem gL_areWordsSo_X9_treeParent : GoodIn wsL_areWordsSo (wsV RL 51 RX9 yX9_treeParent wsX9_treeParent) := goodIn_app (goodIn_of _ (by decide +kernel)) ggL_areWordsSo_X9_treeParent
set_option maxRecDepth 20000 in
theorem ggL_areWordsSo_X9_count : GoodIn wsL_areWordsSo wsX9_count := goodIn_ca (goodIn_r _ [71, 33, 35, 36, 6, 37, 38, 39, 40, 41, 42, 43, 44, 45, 46, 47, 48, 49, 50, 51, 52, 53, 54, 55, 56, 57, 58, 59, 60, 61, 62, 63, 64, 65, 66, 10, 11, 12, 13, 14, 67, 25, 26, 27, 28, 142, 143, 144, 145, 146, 147, 150, 151, 152, 153, 154, 155, 156, 157, 158, 159, 160, 161, 148, 149] (by decide +kernel) (by decide +kernel)) (goodIn_sub (fun _ h => List.mem_cons_of_mem _ (List.mem_append_right _ h)) (by decide +kernel))
set_option maxRecDepth 20000 in
theorem gL_areWordsSo_X9_count : GoodIn wsL_areWordsSo (wsV RL 45 RX9 yX9_count wsX9_count) := goodIn_app (goodIn_of _ (by decide +kernel)) ggL_areWordsSo_X9_count
set_option maxRecDepth 20000 in
theorem ggL_areWordsSo_X9_treeDepth : GoodIn wsL_areWordsSo wsX9_treeDepth := goodIn_ca (goodIn_r _ [75, 33, 35, 36, 6, 37, 38, 39, 40, 41, 42, 43, 44, 45, 46, 47, 48, 49, 50, 51, 52, 53, 54, 55, 56, 57, 58, 59, 60, 61, 62, 63, 64, 65, 66, 10, 11, 12, 13, 14, 67, 25, 26, 27, 28, 142, 143, 144, 145, 146, 147, 150, 151, 152, 153, 154, 155, 156, 157, 158, 159, 160, 161, 148, 149] (by decide +kernel) (by decide +kernel)) (goodIn_sub (fun _ h => List.mem_cons_of_mem _ (List.mem_append_right _ h)) (by decide +kernel))
set_option maxRecDepth 20000 in
theorem gL_areWordsSo_X9_treeDepth : GoodIn wsL_areWordsSo (wsV RL 48 RX9 yX9_treeDepth wsX9_treeDepth) := goodIn_app (goodIn_of _ (by decide +kernel)) ggL_areWordsSo_X9_treeDepth
set_option maxRecDepth 20000 in
theorem ggL_areWordsSo_X9_distance : GoodIn wsL_areWordsSo wsX9_distance := goodIn_ca (goodIn_r _ [79, 80, 35, 36, 6, 37, 38, 39, 40, 41, 42, 43, 44, 45, 46, 47, 48, 49, 50, 51, 52, 53, 54, 55, 56, 57, 58, 59, 81, 82, 83, 84, 85, 86, 87, 88, 89, 90, 91, 92, 93, 94, 95, 96, 97, 98, 99, 100, 101, 102, 103, 104, 105, 106, 107, 108, 109, 110, 111, 112, 113, 114, 115, 142, 143, 144, 145, 146, 147, 158, 159, 160, 162, 163] (by decide +kernel) (by decide +kernel)) (goodIn_sub (fun _ h => List.mem_cons_of_mem _ (List.mem_append_right _ h)) (by decide +kernel))
set_option maxRecDepth 20000 in
theorem gL_areWordsSo_X9_distance : GoodIn wsL_areWordsSo (wsV RL 57 RX9 yX9_distance wsX9_distance) := goodIn_app (goodIn_of _ (by decide +kernel)) ggL_areWordsSo_X9_distance
set_option maxRecDepth 20000 in
theorem ggL_areWordsSo_X9_trieNodes : GoodIn wsL_areWordsSo wsX9_trieNodes := goodIn_r _ [119, 8, 120, 121, 122, 123, 124, 10, 11, 12, 13, 14, 125, 25, 26, 27, 28, 126, 127, 128, 129, 130, 131, 42, 132, 55, 133, 101, 102, 103, 54, 46, 142, 143, 144, 145, 146, 147, 150, 151, 152, 153, 154, 155, 156, 157, 158, 159, 160, 148, 149] (by decide +kernel) (by decide +kernel)
set_option maxRecDepth 20000 in
theorem gL_areWordsSo_X9_trieNodes : GoodIn wsL_areWordsSo (wsV RL 35 RX9 yX9_trieNodes wsX9_trieNodes) := goodIn_app (goodIn_of _ (by decide +kernel)) ggL_areWordsSo_X9_trieNodes
set_option maxRecDepth 20000 in
theorem ggL_areWordsSo_X9_treeNodes : GoodIn wsL_areWordsSo wsX9_treeNodes := goodIn_r _ [137, 33, 138, 139, 140, 63, 141, 65, 66, 10, 11, 12, 13, 14, 142, 143, 144, 145, 146, 147, 161, 148, 149] (by decide +kernel) (by decide +kernel)
set_option maxRecDepth 20000 in
theorem gL_areWordsSo_X9_treeNodes : GoodIn wsL_areWordsSo (wsV RL 38 RX9 yX9_treeNodes wsX9_treeNodes) := goodIn_app (goodIn_of _ (by decide +kernel)) ggL_areWordsSo_X9_treeNodes
theorem dL_areWordsSo_0 : decode cL_areWordsSo 0 = .ok (.iconst 1, 1) := by decide +kernel
theorem dL_areWordsSo_1 : decode cL_areWordsSo 1 = .ok (.istore_n 1, 1) := by decide +kernel
theorem dL_areWordsSo_2 : decode cL_areWordsSo 2 = .ok (.lconst 0, 1) := by decide +kernel
theorem dL_areWordsSo_3 : decode cL_areWordsSo 3 = .ok (.lstore_n 2, 1) := by decide +kernel
theorem dL_areWordsSo_4 : decode cL_areWordsSo 4 = .ok (.iconst 0, 1) := by decide +kernel
theorem dL_areWordsSo_5 : decode cL_areWordsSo 5 = .ok (.istore 4, 2) := by decide +kernel
theorem dL_areWordsSo_7 : decode cL_areWordsSo 7 = .ok (.iload 4, 2) := by decide +kernel
theorem dL_areWordsSo_9 : decode cL_areWordsSo 9 = .ok (.aload_n 0, 1) := by decide +kernel
theorem dL_areWordsSo_10 : decode cL_areWordsSo 10 = .ok (.invokevirtual 31, 3) := by decide +kernel
theorem dL_areWordsSo_13 : decode cL_areWordsSo 13 = .ok (.if_icmp .ge 265, 3) := by decide +kernel
theorem dL_areWordsSo_16 : decode cL_areWordsSo 16 = .ok (.aload_n 0, 1) := by decide +kernel
theorem dL_areWordsSo_17 : decode cL_areWordsSo 17 = .ok (.iload 4, 2) := by decide +kernel
theorem dL_areWordsSo_19 : decode cL_areWordsSo 19 = .ok (.invokevirtual 41, 3) := by decide +kernel
theorem dL_areWordsSo_22 : decode cL_areWordsSo 22 = .ok (.lstore 5, 2) := by decide +kernel
theorem dL_areWordsSo_24 : decode cL_areWordsSo 24 = .ok (.lload 5, 2) := by decide +kernel
theorem dL_areWordsSo_26 : decode cL_areWordsSo 26 = .ok (.lstore 7, 2) := by decide +kernel
theorem dL_areWordsSo_28 : decode cL_areWordsSo 28 = .ok (.lload_n 2, 1) := by decide +kernel
theorem dL_areWordsSo_29 : decode cL_areWordsSo 29 = .ok (.lstore 9, 2) := by decide +kernel
theorem dL_areWordsSo_31 : decode cL_areWordsSo 31 = .ok (.lload 7, 2) := by decide +kernel
theorem dL_areWordsSo_33 : decode cL_areWordsSo 33 = .ok (.ldc2_w 55, 3) := by decide +kernel
theorem dL_areWordsSo_36 : decode cL_areWordsSo 36 = .ok (.lcmp, 1) := by decide +kernel
theorem dL_areWordsSo_37 : decode cL_areWordsSo 37 = .ok (.ifCond .ge 14, 3) := by decide +kernel
theorem dL_areWordsSo_40 : decode cL_areWordsSo 40 = .ok (.lload 7, 2) := by decide +kernel
theorem dL_areWordsSo_42 : decode cL_areWordsSo 42 = .ok (.ldc2_w 29, 3) := by decide +kernel
theorem dL_areWordsSo_45 : decode cL_areWordsSo 45 = .ok (.lmul, 1) := by decide +kernel
theorem dL_areWordsSo_46 : decode cL_areWordsSo 46 = .ok (.lstore 7, 2) := by decide +kernel
theorem dL_areWordsSo_48 : decode cL_areWordsSo 48 = .ok (.goto (-17), 3) := by decide +kernel
theorem dL_areWordsSo_51 : decode cL_areWordsSo 51 = .ok (.lload 9, 2) := by decide +kernel
theorem dL_areWordsSo_53 : decode cL_areWordsSo 53 = .ok (.lconst 0, 1) := by decide +kernel
theorem dL_areWordsSo_54 : decode cL_areWordsSo 54 = .ok (.lcmp, 1) := by decide +kernel
theorem dL_areWordsSo_55 : decode cL_areWordsSo 55 = .ok (.ifCond .le 23, 3) := by decide +kernel
theorem dL_areWordsSo_58 : decode cL_areWordsSo 58 = .ok (.lload 9, 2) := by decide +kernel
theorem dL_areWordsSo_60 : decode cL_areWordsSo 60 = .ok (.ldc2_w 55, 3) := by decide +kernel
theorem dL_areWordsSo_63 : decode cL_areWordsSo 63 = .ok (.lcmp, 1) := by decide +kernel
theorem dL_areWordsSo_64 : decode cL_areWordsSo 64 = .ok (.ifCond .ge 14, 3) := by decide +kernel
theorem dL_areWordsSo_67 : decode cL_areWordsSo 67 = .ok (.lload 9, 2) := by decide +kernel
theorem dL_areWordsSo_69 : decode cL_areWordsSo 69 = .ok (.ldc2_w 29, 3) := by decide +kernel
theorem dL_areWordsSo_72 : decode cL_areWordsSo 72 = .ok (.lmul, 1) := by decide +kernel
theorem dL_areWordsSo_73 : decode cL_areWordsSo 73 = .ok (.lstore 9, 2) := by decide +kernel
theorem dL_areWordsSo_75 : decode cL_areWordsSo 75 = .ok (.goto (-24), 3) := by decide +kernel
theorem dL_areWordsSo_78 : decode cL_areWordsSo 78 = .ok (.iconst 0, 1) := by decide +kernel
theorem dL_areWordsSo_79 : decode cL_areWordsSo 79 = .ok (.istore 11, 2) := by decide +kernel
theorem dL_areWordsSo_81 : decode cL_areWordsSo 81 = .ok (.iload 11, 2) := by decide +kernel
theorem dL_areWordsSo_83 : decode cL_areWordsSo 83 = .ok (.bipush 10, 2) := by decide +kernel
theorem dL_areWordsSo_85 : decode cL_areWordsSo 85 = .ok (.if_icmp .ge 40, 3) := by decide +kernel
theorem dL_areWordsSo_88 : decode cL_areWordsSo 88 = .ok (.lload 9, 2) := by decide +kernel
theorem dL_areWordsSo_90 : decode cL_areWordsSo 90 = .ok (.lconst 0, 1) := by decide +kernel
theorem dL_areWordsSo_91 : decode cL_areWordsSo 91 = .ok (.lcmp, 1) := by decide +kernel
theorem dL_areWordsSo_92 : decode cL_areWordsSo 92 = .ok (.ifCond .le 33, 3) := by decide +kernel
theorem dL_areWordsSo_95 : decode cL_areWordsSo 95 = .ok (.lload 7, 2) := by decide +kernel
theorem dL_areWordsSo_97 : decode cL_areWordsSo 97 = .ok (.bipush 45, 2) := by decide +kernel
theorem dL_areWordsSo_99 : decode cL_areWordsSo 99 = .ok (.iconst 5, 1) := by decide +kernel
theorem dL_areWordsSo_100 : decode cL_areWordsSo 100 = .ok (.iload 11, 2) := by decide +kernel
theorem dL_areWordsSo_102 : decode cL_areWordsSo 102 = .ok (.imul, 1) := by decide +kernel
theorem dL_areWordsSo_103 : decode cL_areWordsSo 103 = .ok (.isub, 1) := by decide +kernel
theorem dL_areWordsSo_104 : decode cL_areWordsSo 104 = .ok (.lshr, 1) := by decide +kernel
theorem dL_areWordsSo_105 : decode cL_areWordsSo 105 = .ok (.lload 9, 2) := by decide +kernel
theorem dL_areWordsSo_107 : decode cL_areWordsSo 107 = .ok (.bipush 45, 2) := by decide +kernel
theorem dL_areWordsSo_109 : decode cL_areWordsSo 109 = .ok (.iconst 5, 1) := by decide +kernel
theorem dL_areWordsSo_110 : decode cL_areWordsSo 110 = .ok (.iload 11, 2) := by decide +kernel
theorem dL_areWordsSo_112 : decode cL_areWordsSo 112 = .ok (.imul, 1) := by decide +kernel
theorem dL_areWordsSo_113 : decode cL_areWordsSo 113 = .ok (.isub, 1) := by decide +kernel
theorem dL_areWordsSo_114 : decode cL_areWordsSo 114 = .ok (.lshr, 1) := by decide +kernel
theorem dL_areWordsSo_115 : decode cL_areWordsSo 115 = .ok (.lcmp, 1) := by decide +kernel
theorem dL_areWordsSo_116 : decode cL_areWordsSo 116 = .ok (.ifCond .ne 9, 3) := by decide +kernel
theorem dL_areWordsSo_119 : decode cL_areWordsSo 119 = .ok (.iinc 11 1, 3) := by decide +kernel
theorem dL_areWordsSo_122 : decode cL_areWordsSo 122 = .ok (.goto (-41), 3) := by decide +kernel
theorem dL_areWordsSo_125 : decode cL_areWordsSo 125 = .ok (.iconst 0, 1) := by decide +kernel
theorem dL_areWordsSo_126 : decode cL_areWordsSo 126 = .ok (.istore 12, 2) := by decide +kernel
theorem dL_areWordsSo_128 : decode cL_areWordsSo 128 = .ok (.lload 5, 2) := by decide +kernel
theorem dL_areWordsSo_130 : decode cL_areWordsSo 130 = .ok (.lstore 13, 2) := by decide +kernel
theorem dL_areWordsSo_132 : decode cL_areWordsSo 132 = .ok (.lload 13, 2) := by decide +kernel
theorem dL_areWordsSo_134 : decode cL_areWordsSo 134 = .ok (.lconst 0, 1) := by decide +kernel
theorem dL_areWordsSo_135 : decode cL_areWordsSo 135 = .ok (.lcmp, 1) := by decide +kernel
theorem dL_areWordsSo_136 : decode cL_areWordsSo 136 = .ok (.ifCond .le 15, 3) := by decide +kernel
theorem dL_areWordsSo_139 : decode cL_areWordsSo 139 = .ok (.iinc 12 1, 3) := by decide +kernel
theorem dL_areWordsSo_142 : decode cL_areWordsSo 142 = .ok (.lload 13, 2) := by decide +kernel
theorem dL_areWordsSo_144 : decode cL_areWordsSo 144 = .ok (.iconst 5, 1) := by decide +kernel
theorem dL_areWordsSo_145 : decode cL_areWordsSo 145 = .ok (.lshr, 1) := by decide +kernel
theorem dL_areWordsSo_146 : decode cL_areWordsSo 146 = .ok (.lstore 13, 2) := by decide +kernel
theorem dL_areWordsSo_148 : decode cL_areWordsSo 148 = .ok (.goto (-16), 3) := by decide +kernel
theorem dL_areWordsSo_151 : decode cL_areWordsSo 151 = .ok (.iload_n 1, 1) := by decide +kernel
theorem dL_areWordsSo_152 : decode cL_areWordsSo 152 = .ok (.iload 12, 2) := by decide +kernel
theorem dL_areWordsSo_154 : decode cL_areWordsSo 154 = .ok (.iload 11, 2) := by decide +kernel
theorem dL_areWordsSo_156 : decode cL_areWordsSo 156 = .ok (.iload 12, 2) := by decide +kernel
theorem dL_areWordsSo_158 : decode cL_areWordsSo 158 = .ok (.if_icmp .ge 8, 3) := by decide +kernel
theorem dL_areWordsSo_161 : decode cL_areWordsSo 161 = .ok (.iload 11, 2) := by decide +kernel
theorem dL_areWordsSo_163 : decode cL_areWordsSo 163 = .ok (.goto 5, 3) := by decide +kernel
theorem dL_areWordsSo_166 : decode cL_areWordsSo 166 = .ok (.iload 12, 2) := by decide +kernel
theorem dL_areWordsSo_168 : decode cL_areWordsSo 168 = .ok (.isub, 1) := by decide +kernel
theorem dL_areWordsSo_169 : decode cL_areWordsSo 169 = .ok (.iadd, 1) := by decide +kernel
theorem dL_areWordsSo_170 : decode cL_areWordsSo 170 = .ok (.istore_n 1, 1) := by decide +kernel
theorem dL_areWordsSo_171 : decode cL_areWordsSo 171 = .ok (.aload_n 0, 1) := by decide +kernel
theorem dL_areWordsSo_172 : decode cL_areWordsSo 172 = .ok (.lload 5, 2) := by decide +kernel
theorem dL_areWordsSo_174 : decode cL_areWordsSo 174 = .ok (.invokevirtual 51, 3) := by decide +kernel
theorem dL_areWordsSo_177 : decode cL_areWordsSo 177 = .ok (.lstore 13, 2) := by decide +kernel
theorem dL_areWordsSo_179 : decode cL_areWordsSo 179 = .ok (.aload_n 0, 1) := by decide +kernel
theorem dL_areWordsSo_180 : decode cL_areWordsSo 180 = .ok (.lload 5, 2) := by decide +kernel
theorem dL_areWordsSo_182 : decode cL_areWordsSo 182 = .ok (.invokevirtual 45, 3) := by decide +kernel
theorem dL_areWordsSo_185 : decode cL_areWordsSo 185 = .ok (.iconst 1, 1) := by decide +kernel
theorem dL_areWordsSo_186 : decode cL_areWordsSo 186 = .ok (.if_icmp .lt 81, 3) := by decide +kernel
theorem dL_areWordsSo_189 : decode cL_areWordsSo 189 = .ok (.iload 4, 2) := by decide +kernel
theorem dL_areWordsSo_191 : decode cL_areWordsSo 191 = .ok (.ifCond .le 11, 3) := by decide +kernel
theorem dL_areWordsSo_194 : decode cL_areWordsSo 194 = .ok (.lload 7, 2) := by decide +kernel
theorem dL_areWordsSo_196 : decode cL_areWordsSo 196 = .ok (.lload 9, 2) := by decide +kernel
theorem dL_areWordsSo_198 : decode cL_areWordsSo 198 = .ok (.lcmp, 1) := by decide +kernel
theorem dL_areWordsSo_199 : decode cL_areWordsSo 199 = .ok (.ifCond .le 68, 3) := by decide +kernel
theorem dL_areWordsSo_202 : decode cL_areWordsSo 202 = .ok (.lload 13, 2) := by decide +kernel
theorem dL_areWordsSo_204 : decode cL_areWordsSo 204 = .ok (.lconst 0, 1) := by decide +kernel
theorem dL_areWordsSo_205 : decode cL_areWordsSo 205 = .ok (.lcmp, 1) := by decide +kernel
theorem dL_areWordsSo_206 : decode cL_areWordsSo 206 = .ok (.ifCond .ge 7, 3) := by decide +kernel
theorem dL_areWordsSo_209 : decode cL_areWordsSo 209 = .ok (.iconst 1, 1) := by decide +kernel
theorem dL_areWordsSo_210 : decode cL_areWordsSo 210 = .ok (.goto 4, 3) := by decide +kernel
theorem dL_areWordsSo_213 : decode cL_areWordsSo 213 = .ok (.iconst 0, 1) := by decide +kernel
theorem dL_areWordsSo_214 : decode cL_areWordsSo 214 = .ok (.aload_n 0, 1) := by decide +kernel
theorem dL_areWordsSo_215 : decode cL_areWordsSo 215 = .ok (.lload 5, 2) := by decide +kernel
theorem dL_areWordsSo_217 : decode cL_areWordsSo 217 = .ok (.invokevirtual 48, 3) := by decide +kernel
theorem dL_areWordsSo_220 : decode cL_areWordsSo 220 = .ok (.ifCond .ne 7, 3) := by decide +kernel
theorem dL_areWordsSo_223 : decode cL_areWordsSo 223 = .ok (.iconst 1, 1) := by decide +kernel
theorem dL_areWordsSo_224 : decode cL_areWordsSo 224 = .ok (.goto 4, 3) := by decide +kernel
theorem dL_areWordsSo_227 : decode cL_areWordsSo 227 = .ok (.iconst 0, 1) := by decide +kernel
theorem dL_areWordsSo_228 : decode cL_areWordsSo 228 = .ok (.if_icmp .ne 39, 3) := by decide +kernel
theorem dL_areWordsSo_231 : decode cL_areWordsSo 231 = .ok (.lload 13, 2) := by decide +kernel
theorem dL_areWordsSo_233 : decode cL_areWordsSo 233 = .ok (.lconst 0, 1) := by decide +kernel
theorem dL_areWordsSo_234 : decode cL_areWordsSo 234 = .ok (.lcmp, 1) := by decide +kernel
theorem dL_areWordsSo_235 : decode cL_areWordsSo 235 = .ok (.ifCond .le 34, 3) := by decide +kernel
theorem dL_areWordsSo_238 : decode cL_areWordsSo 238 = .ok (.aload_n 0, 1) := by decide +kernel
theorem dL_areWordsSo_239 : decode cL_areWordsSo 239 = .ok (.lload 13, 2) := by decide +kernel
theorem dL_areWordsSo_241 : decode cL_areWordsSo 241 = .ok (.invokevirtual 48, 3) := by decide +kernel
theorem dL_areWordsSo_244 : decode cL_areWordsSo 244 = .ok (.aload_n 0, 1) := by decide +kernel
theorem dL_areWordsSo_245 : decode cL_areWordsSo 245 = .ok (.lload 5, 2) := by decide +kernel
theorem dL_areWordsSo_247 : decode cL_areWordsSo 247 = .ok (.invokevirtual 48, 3) := by decide +kernel
theorem dL_areWordsSo_250 : decode cL_areWordsSo 250 = .ok (.iconst 1, 1) := by decide +kernel
theorem dL_areWordsSo_251 : decode cL_areWordsSo 251 = .ok (.isub, 1) := by decide +kernel
theorem dL_areWordsSo_252 : decode cL_areWordsSo 252 = .ok (.if_icmp .ne 15, 3) := by decide +kernel
theorem dL_areWordsSo_255 : decode cL_areWordsSo 255 = .ok (.aload_n 0, 1) := by decide +kernel
theorem dL_areWordsSo_256 : decode cL_areWordsSo 256 = .ok (.lload 13, 2) := by decide +kernel
theorem dL_areWordsSo_258 : decode cL_areWordsSo 258 = .ok (.lload 5, 2) := by decide +kernel
theorem dL_areWordsSo_260 : decode cL_areWordsSo 260 = .ok (.invokevirtual 57, 3) := by decide +kernel
theorem dL_areWordsSo_263 : decode cL_areWordsSo 263 = .ok (.iconst 1, 1) := by decide +kernel
theorem dL_areWordsSo_264 : decode cL_areWordsSo 264 = .ok (.if_icmp .ge 5, 3) := by decide +kernel
theorem dL_areWordsSo_267 : decode cL_areWordsSo 267 = .ok (.iconst 0, 1) := by decide +kernel
theorem dL_areWordsSo_268 : decode cL_areWordsSo 268 = .ok (.ireturn, 1) := by decide +kernel
theorem dL_areWordsSo_269 : decode cL_areWordsSo 269 = .ok (.lload 5, 2) := by decide +kernel
theorem dL_areWordsSo_271 : decode cL_areWordsSo 271 = .ok (.lstore_n 2, 1) := by decide +kernel
theorem dL_areWordsSo_272 : decode cL_areWordsSo 272 = .ok (.iinc 4 1, 3) := by decide +kernel
theorem dL_areWordsSo_275 : decode cL_areWordsSo 275 = .ok (.goto (-268), 3) := by decide +kernel
theorem dL_areWordsSo_278 : decode cL_areWordsSo 278 = .ok (.aload_n 0, 1) := by decide +kernel
theorem dL_areWordsSo_279 : decode cL_areWordsSo 279 = .ok (.invokevirtual 35, 3) := by decide +kernel
theorem dL_areWordsSo_282 : decode cL_areWordsSo 282 = .ok (.iload_n 1, 1) := by decide +kernel
theorem dL_areWordsSo_283 : decode cL_areWordsSo 283 = .ok (.if_icmp .ne 27, 3) := by decide +kernel
theorem dL_areWordsSo_286 : decode cL_areWordsSo 286 = .ok (.aload_n 0, 1) := by decide +kernel
theorem dL_areWordsSo_287 : decode cL_areWordsSo 287 = .ok (.invokevirtual 38, 3) := by decide +kernel
theorem dL_areWordsSo_290 : decode cL_areWordsSo 290 = .ok (.aload_n 0, 1) := by decide +kernel
theorem dL_areWordsSo_291 : decode cL_areWordsSo 291 = .ok (.invokevirtual 31, 3) := by decide +kernel
theorem dL_areWordsSo_294 : decode cL_areWordsSo 294 = .ok (.if_icmp .lt 16, 3) := by decide +kernel
theorem dL_areWordsSo_297 : decode cL_areWordsSo 297 = .ok (.aload_n 0, 1) := by decide +kernel
theorem dL_areWordsSo_298 : decode cL_areWordsSo 298 = .ok (.invokevirtual 38, 3) := by decide +kernel
theorem dL_areWordsSo_301 : decode cL_areWordsSo 301 = .ok (.bipush 40, 2) := by decide +kernel
theorem dL_areWordsSo_303 : decode cL_areWordsSo 303 = .ok (.if_icmp .gt 7, 3) := by decide +kernel
theorem dL_areWordsSo_306 : decode cL_areWordsSo 306 = .ok (.iconst 1, 1) := by decide +kernel
theorem dL_areWordsSo_307 : decode cL_areWordsSo 307 = .ok (.goto 4, 3) := by decide +kernel
theorem dL_areWordsSo_310 : decode cL_areWordsSo 310 = .ok (.iconst 0, 1) := by decide +kernel
theorem dL_areWordsSo_311 : decode cL_areWordsSo 311 = .ok (.ireturn, 1) := by decide +kernel
set_option maxRecDepth 20000 in
theorem ggL_isFound_X9_words : GoodIn wsL_isFound wsX9_words := goodIn_r _ [5, 6, 7, 8, 9, 10, 11, 12, 321, 322, 323, 324, 325, 326, 327, 328] (by decide +kernel) (by decide +kernel)
set_option maxRecDepth 20000 in
theorem gL_isFound_X9_words : GoodIn wsL_isFound (wsV RL 31 RX9 yX9_words wsX9_words) := goodIn_app (goodIn_of _ (by decide +kernel)) ggL_isFound_X9_words
set_option maxRecDepth 20000 in
theorem ggL_isFound_X9_wordAt : GoodIn wsL_isFound wsX9_wordAt := goodIn_ca (goodIn_r _ [16, 6, 17, 18, 4, 19, 20, 21, 22, 23, 24, 10, 25, 12, 26, 321, 322, 323, 324, 325, 326, 329, 330, 331, 332, 333, 334, 335, 336, 337, 338, 339, 327, 328] (by decide +kernel) (by decide +kernel)) (goodIn_sub (fun _ h => List.mem_cons_of_mem _ (List.mem_append_left _ (List.mem_append_right _ h))) (by decide +kernel))
set_option maxRecDepth 20000 in
theorem gL_isFound_X9_wordAt : GoodIn wsL_isFound (wsV RL 41 RX9 yX9_wordAt wsX9_wordAt) := goodIn_app (goodIn_of _ (by decide +kernel)) ggL_isFound_X9_wordAt
set_option maxRecDepth 20000 in
theorem ggL_isFound_X9_distance : GoodIn wsL_isFound wsX9_distance := goodIn_ca (goodIn_r _ [30, 31, 32, 33, 4, 34, 35, 36, 37, 38, 39, 40, 41, 42, 43, 44, 45, 46, 47, 48, 49, 50, 51, 52, 53, 54, 55, 56, 57, 58, 59, 60, 61, 62, 63, 64, 65, 66, 67, 68, 69, 70, 71, 72, 73, 74, 75, 76, 77, 78, 79, 80, 81, 82, 83, 84, 85, 86, 87, 88, 89, 90, 91, 321, 322, 323, 324, 325, 326, 337, 338, 339, 340, 341] (by decide +kernel) (by decide +kernel)) (goodIn_sub (fun _ h => List.mem_cons_of_mem _ (List.mem_append_right _ h)) (by decide +kernel))
set_option maxRecDepth 20000 in
theorem gL_isFound_X9_distance : GoodIn wsL_isFound (wsV RL 57 RX9 yX9_distance wsX9_distance) := goodIn_app (goodIn_of _ (by decide +kernel)) ggL_isFound_X9_distance
set_option maxRecDepth 20000 in
theorem ggL_isFound_X9_price : GoodIn wsL_isFound wsX9_price := goodIn_ca (goodIn_r _ [95, 31, 32, 33, 4, 34, 35, 36, 37, 38, 39, 40, 41, 42, 43, 44, 45, 46, 47, 48, 49, 50, 51, 52, 53, 54, 55, 56, 96, 97, 98, 60, 99, 62, 100, 101, 102, 103, 84, 85, 86, 87, 88, 89, 90, 70, 91, 72, 73, 74, 75, 104, 105, 106, 76, 77, 78, 79, 107, 108, 109, 110, 111, 112, 113, 114, 115, 116, 117, 118, 119, 120, 121, 67, 68, 69, 71, 321, 322, 323, 324, 325, 326, 337, 338, 339, 340, 341] (by decide +kernel) (by decide +kernel)) (goodIn_sub (fun _ h => List.mem_cons_of_mem _ (List.mem_append_right _ h)) (by decide +kernel))
set_option maxRecDepth 20000 in
theorem gL_isFound_X9_price : GoodIn wsL_isFound (wsV RL 61 RX9 yX9_price wsX9_price) := goodIn_app (goodIn_of _ (by decide +kernel)) ggL_isFound_X9_price
set_option maxRecDepth 20000 in
theorem ggL_isFound_X9_corrections : GoodIn wsL_isFound wsX9_corrections := goodIn_ca (goodIn_r _ [125, 126, 32, 33, 4, 34, 35, 36, 37, 38, 39, 40, 41, 42, 43, 44, 45, 46, 47, 48, 49, 50, 51, 52, 53, 54, 55, 56, 127, 128, 129, 130, 131, 132, 133, 6, 31, 134, 135, 136, 10, 137, 12, 7, 8, 9, 11, 22, 23, 24, 25, 26, 138, 139, 140, 141, 57, 58, 59, 60, 61, 62, 63, 64, 65, 66, 67, 68, 69, 70, 71, 72, 73, 74, 75, 76, 77, 78, 79, 80, 81, 82, 83, 84, 85, 86, 87, 88, 89, 90, 91, 96, 97, 98, 99, 100, 101, 102, 103, 104, 105, 106, 107, 108, 109, 110, 111, 112, 113, 114, 115, 116, 117, 118, 119, 120, 121, 142, 143, 144, 145, 146, 147, 148, 149, 150, 151, 152, 153, 154, 155, 156, 157, 158, 159, 160, 161, 162, 321, 322, 323, 324, 325, 326, 337, 338, 339, 329, 330, 331, 332, 333, 334, 335, 336, 327, 328, 340, 341] (by decide +kernel) (by decide +kernel)) (goodIn_sub (fun _ h => List.mem_cons_of_mem _ (List.mem_append_right _ h)) (by decide +kernel))
set_option maxRecDepth 20000 in
theorem gL_isFound_X9_corrections : GoodIn wsL_isFound (wsV RL 64 RX9 yX9_corrections wsX9_corrections) := goodIn_app (goodIn_of _ (by decide +kernel)) ggL_isFound_X9_corrections
set_option maxRecDepth 20000 in
theorem ggL_isFound_X9_nearest : GoodIn wsL_isFound wsX9_nearest := goodIn_ca (goodIn_r _ [166, 6, 31, 167, 85, 86, 87, 32, 33, 4, 34, 35, 36, 37, 38, 39, 40, 41, 42, 43, 44, 45, 46, 47, 48, 49, 50, 51, 52, 53, 54, 55, 56, 7, 8, 9, 10, 11, 12, 22, 23, 24, 25, 26, 57, 58, 59, 60, 61, 62, 63, 64, 65, 66, 67, 68, 69, 70, 71, 72, 73, 74, 75, 76, 77, 78, 79, 80, 81, 82, 83, 84, 88, 89, 90, 91, 321, 322, 323, 324, 325, 326, 329, 330, 331, 332, 333, 334, 335, 336, 337, 338, 339, 327, 328, 340, 341] (by decide +kernel) (by decide +kernel)) (goodIn_sub (fun _ h => List.mem_cons_of_mem _ (List.mem_append_right _ h)) (by decide +kernel))
set_option maxRecDepth 20000 in
theorem gL_isFound_X9_nearest : GoodIn wsL_isFound (wsV RL 67 RX9 yX9_nearest wsX9_nearest) := goodIn_app (goodIn_of _ (by decide +kernel)) ggL_isFound_X9_nearest
set_option maxRecDepth 20000 in
theorem ggL_isFound_X9_correction : GoodIn wsL_isFound wsX9_correction := goodIn_ca (goodIn_ca (goodIn_r _ [171, 126, 32, 33, 4, 34, 35, 36, 37, 38, 39, 40, 41, 42, 43, 44, 45, 46, 47, 48, 49, 50, 51, 52, 53, 54, 55, 56, 127, 128, 129, 130, 131, 132, 133, 6, 31, 134, 135, 136, 10, 137, 12, 7, 8, 9, 11, 22, 23, 24, 25, 26, 138, 139, 140, 141, 57, 58, 59, 60, 61, 62, 63, 64, 65, 66, 67, 68, 69, 70, 71, 72, 73, 74, 75, 76, 77, 78, 79, 80, 81, 82, 83, 84, 85, 86, 87, 88, 89, 90, 91, 96, 97, 98, 99, 100, 101, 102, 103, 104, 105, 106, 107, 108, 109, 110, 111, 112, 113, 114, 115, 116, 117, 118, 119, 120, 121, 142, 143, 144, 145, 146, 147, 148, 149, 150, 151, 152, 153, 154, 155, 156, 157, 158, 159, 160, 161, 162, 17, 18, 19, 20, 21, 321, 322, 323, 324, 325, 326, 337, 338, 339, 329, 330, 331, 332, 333, 334, 335, 336, 327, 328, 340, 341] (by decide +kernel) (by decide +kernel)) (goodIn_sub (fun _ h => List.mem_cons_of_mem _ (List.mem_append_right _ h)) (by decide +kernel))) (goodIn_sub (fun _ h => List.mem_cons_of_mem _ (List.mem_append_left _ (List.mem_append_right _ h))) (by decide +kernel))
set_option maxRecDepth 20000 in
theorem gL_isFound_X9_correction : GoodIn wsL_isFound (wsV RL 70 RX9 yX9_correction wsX9_correction) := goodIn_app (goodIn_of _ (by decide +kernel)) ggL_isFound_X9_correction
set_option maxRecDepth 20000 in
theorem ggL_isFound_X9_count : GoodIn wsL_isFound wsX9_count := goodIn_ca (goodIn_r _ [175, 176, 32, 33, 4, 34, 35, 36, 37, 38, 39, 40, 41, 42, 43, 44, 45, 46, 47, 48, 49, 50, 51, 52, 53, 54, 55, 56, 177, 178, 179, 180, 181, 182, 183, 8, 9, 10, 11, 12, 184, 23, 24, 25, 26, 321, 322, 323, 324, 325, 326, 329, 330, 331, 332, 333, 334, 335, 336, 337, 338, 339, 342, 327, 328] (by decide +kernel) (by decide +kernel)) (goodIn_sub (fun _ h => List.mem_cons_of_mem _ (List.mem_append_right _ h)) (by decide +kernel))
set_option maxRecDepth 20000 in
theorem gL_isFound_X9_count : GoodIn wsL_isFound (wsV RL 45 RX9 yX9_count wsX9_count) := goodIn_app (goodIn_of _ (by decide +kernel)) ggL_isFound_X9_count
set_option maxRecDepth 20000 in
theorem ggL_isFound_X9_treeCompared : GoodIn wsL_isFound wsX9_treeCompared := goodIn_ca (goodIn_r _ [188, 176, 31, 32, 33, 4, 34, 35, 36, 37, 38, 39, 40, 41, 42, 43, 44, 45, 46, 47, 48, 49, 50, 51, 52, 53, 54, 55, 56, 127, 128, 129, 189, 190, 191, 180, 192, 182, 183, 8, 9, 10, 11, 12, 184, 23, 24, 25, 26, 193, 194, 195, 196, 197, 86, 198, 199, 58, 59, 60, 61, 62, 63, 64, 65, 66, 67, 68, 69, 70, 71, 72, 73, 74, 75, 76, 77, 78, 79, 80, 81, 82, 83, 84, 85, 87, 88, 89, 90, 91, 321, 322, 323, 324, 325, 326, 337, 338, 339, 342, 329, 330, 331, 332, 333, 334, 335, 336, 327, 328, 340, 341] (by decide +kernel) (by decide +kernel)) (goodIn_sub (fun _ h => List.mem_cons_of_mem _ (List.mem_append_right _ h)) (by decide +kernel))
set_option maxRecDepth 20000 in
theorem gL_isFound_X9_treeCompared : GoodIn wsL_isFound (wsV RL 74 RX9 yX9_treeCompared wsX9_treeCompared) := goodIn_app (goodIn_of _ (by decide +kernel)) ggL_isFound_X9_treeCompared
set_option maxRecDepth 20000 in
theorem ggL_isFound_X9_treeNodes : GoodIn wsL_isFound wsX9_treeNodes := goodIn_r _ [203, 176, 204, 205, 206, 180, 207, 182, 183, 8, 9, 10, 11, 12, 321, 322, 323, 324, 325, 326, 342, 327, 328] (by decide +kernel) (by decide +kernel)
set_option maxRecDepth 20000 in
theorem gL_isFound_X9_treeNodes : GoodIn wsL_isFound (wsV RL 38 RX9 yX9_treeNodes wsX9_treeNodes) := goodIn_app (goodIn_of _ (by decide +kernel)) ggL_isFound_X9_treeNodes
set_option maxRecDepth 20000 in
theorem ggL_isFound_X9_rows : GoodIn wsL_isFound wsX9_rows := goodIn_ca (goodIn_r _ [211, 212, 31, 6, 32, 33, 4, 34, 35, 36, 37, 38, 39, 40, 41, 42, 43, 44, 45, 46, 47, 48, 49, 50, 51, 52, 53, 54, 55, 56, 127, 128, 129, 213, 214, 215, 216, 217, 218, 219, 220, 221, 222, 223, 224, 225, 64, 65, 60, 66, 62, 67, 68, 69, 70, 71, 72, 73, 74, 75, 226, 227, 228, 229, 230, 231, 232, 233, 84, 85, 86, 87, 88, 89, 90, 91, 234, 235, 236, 237, 238, 239, 240, 241, 242, 243, 244, 245, 246, 247, 8, 9, 10, 11, 12, 248, 23, 24, 25, 26, 249, 250, 251, 252, 253, 254, 255, 256, 77, 78, 79, 257, 258, 259, 260, 261, 262, 81, 82, 83, 76, 263, 264, 265, 266, 267, 268, 269, 270, 321, 322, 323, 324, 325, 326, 337, 338, 339, 343, 329, 330, 331, 332, 333, 334, 335, 336, 344, 345, 340, 341, 327, 328] (by decide +kernel) (by decide +kernel)) (goodIn_sub (fun _ h => List.mem_cons_of_mem _ (List.mem_append_right _ h)) (by decide +kernel))
set_option maxRecDepth 20000 in
theorem gL_isFound_X9_rows : GoodIn wsL_isFound (wsV RL 77 RX9 yX9_rows wsX9_rows) := goodIn_app (goodIn_of _ (by decide +kernel)) ggL_isFound_X9_rows
set_option maxRecDepth 20000 in
theorem ggL_isFound_X9_trieReached : GoodIn wsL_isFound wsX9_trieReached := goodIn_ca (goodIn_r _ [274, 212, 31, 6, 32, 33, 4, 34, 35, 36, 37, 38, 39, 40, 41, 42, 43, 44, 45, 46, 47, 48, 49, 50, 51, 52, 53, 54, 55, 56, 127, 128, 129, 213, 214, 215, 216, 217, 218, 219, 220, 221, 222, 223, 224, 225, 64, 65, 60, 66, 62, 67, 68, 69, 70, 71, 72, 73, 74, 75, 226, 227, 228, 229, 230, 231, 232, 233, 84, 85, 86, 87, 88, 89, 90, 91, 234, 235, 236, 237, 238, 239, 240, 241, 242, 243, 244, 245, 246, 247, 8, 9, 10, 11, 12, 248, 23, 24, 25, 26, 249, 250, 251, 252, 253, 254, 255, 256, 77, 78, 79, 257, 258, 259, 260, 261, 262, 81, 82, 83, 76, 321, 322, 323, 324, 325, 326, 337, 338, 339, 343, 329, 330, 331, 332, 333, 334, 335, 336, 344, 345, 340, 341, 327, 328] (by decide +kernel) (by decide +kernel)) (goodIn_sub (fun _ h => List.mem_cons_of_mem _ (List.mem_append_right _ h)) (by decide +kernel))
set_option maxRecDepth 20000 in
theorem gL_isFound_X9_trieReached : GoodIn wsL_isFound (wsV RL 80 RX9 yX9_trieReached wsX9_trieReached) := goodIn_app (goodIn_of _ (by decide +kernel)) ggL_isFound_X9_trieReached
set_option maxRecDepth 20000 in
theorem ggL_isFound_X9_trieNodes : GoodIn wsL_isFound wsX9_trieNodes := goodIn_r _ [278, 6, 279, 280, 216, 281, 247, 8, 9, 10, 11, 12, 248, 23, 24, 25, 26, 249, 250, 251, 252, 253, 254, 39, 255, 52, 256, 77, 78, 79, 51, 43, 321, 322, 323, 324, 325, 326, 329, 330, 331, 332, 333, 334, 335, 336, 337, 338, 339, 327, 328] (by decide +kernel) (by decide +kernel)
set_option maxRecDepth 20000 in
theorem gL_isFound_X9_trieNodes : GoodIn wsL_isFound (wsV RL 35 RX9 yX9_trieNodes wsX9_trieNodes) := goodIn_app (goodIn_of _ (by decide +kernel)) ggL_isFound_X9_trieNodes
set_option maxRecDepth 20000 in
theorem ggL_isFound_X9_candidates : GoodIn wsL_isFound wsX9_candidates := goodIn_ca (goodIn_r _ [285, 6, 32, 33, 4, 34, 35, 36, 37, 38, 39, 40, 41, 42, 43, 44, 45, 46, 47, 48, 49, 50, 51, 52, 53, 54, 55, 56, 127, 128, 129, 7, 8, 9, 10, 11, 12, 22, 23, 24, 25, 26, 286, 287, 288, 289, 290, 291, 86, 292, 31, 293, 294, 295, 60, 296, 62, 297, 298, 299, 300, 301, 76, 77, 78, 79, 88, 89, 90, 70, 91, 72, 73, 74, 75, 67, 68, 69, 71, 321, 322, 323, 324, 325, 326, 337, 338, 339, 327, 328, 329, 330, 331, 332, 333, 334, 335, 336, 340, 341] (by decide +kernel) (by decide +kernel)) (goodIn_sub (fun _ h => List.mem_cons_of_mem _ (List.mem_append_right _ h)) (by decide +kernel))
set_option maxRecDepth 20000 in
theorem gL_isFound_X9_candidates : GoodIn wsL_isFound (wsV RL 83 RX9 yX9_candidates wsX9_candidates) := goodIn_app (goodIn_of _ (by decide +kernel)) ggL_isFound_X9_candidates
set_option maxRecDepth 20000 in
theorem ggL_isFound_X9_falseCandidates : GoodIn wsL_isFound wsX9_falseCandidates := goodIn_ca (goodIn_r _ [305, 6, 32, 33, 4, 34, 35, 36, 37, 38, 39, 40, 41, 42, 43, 44, 45, 46, 47, 48, 49, 50, 51, 52, 53, 54, 55, 56, 127, 128, 129, 7, 8, 9, 10, 11, 12, 22, 23, 24, 25, 26, 286, 287, 288, 289, 290, 291, 86, 292, 31, 293, 294, 295, 60, 296, 62, 297, 298, 299, 300, 301, 76, 77, 78, 79, 88, 89, 90, 70, 91, 72, 73, 74, 75, 67, 68, 69, 71, 138, 139, 140, 141, 57, 58, 59, 61, 63, 64, 65, 66, 80, 81, 82, 83, 84, 85, 87, 321, 322, 323, 324, 325, 326, 337, 338, 339, 327, 328, 329, 330, 331, 332, 333, 334, 335, 336, 340, 341] (by decide +kernel) (by decide +kernel)) (goodIn_sub (fun _ h => List.mem_cons_of_mem _ (List.mem_append_right _ h)) (by decide +kernel))
set_option maxRecDepth 20000 in
theorem gL_isFound_X9_falseCandidates : GoodIn wsL_isFound (wsV RL 86 RX9 yX9_falseCandidates wsX9_falseCandidates) := goodIn_app (goodIn_of _ (by decide +kernel)) ggL_isFound_X9_falseCandidates
set_option maxRecDepth 20000 in
theorem ggL_isFound_X9_neighbourhood : GoodIn wsL_isFound wsX9_neighbourhood := goodIn_ca (goodIn_r _ [309, 310, 32, 33, 4, 34, 35, 36, 37, 38, 39, 40, 41, 42, 43, 44, 45, 46, 47, 48, 49, 50, 51, 52, 53, 54, 55, 56, 127, 128, 129, 311, 220, 221, 222, 223, 224, 312, 313, 314, 315, 316, 239, 240, 241, 242, 243, 244, 245, 246, 317, 318, 319, 320, 268, 269, 270, 321, 322, 323, 324, 325, 326, 337, 338, 339, 344, 345] (by decide +kernel) (by decide +kernel)) (goodIn_sub (fun _ h => List.mem_cons_of_mem _ (List.mem_append_right _ h)) (by decide +kernel))
set_option maxRecDepth 20000 in
theorem gL_isFound_X9_neighbourhood : GoodIn wsL_isFound (wsV RL 89 RX9 yX9_neighbourhood wsX9_neighbourhood) := goodIn_app (goodIn_of _ (by decide +kernel)) ggL_isFound_X9_neighbourhood
theorem dL_isFound_0 : decode cL_isFound 0 = .ok (.iconst 0, 1) := by decide +kernel
theorem dL_isFound_1 : decode cL_isFound 1 = .ok (.istore 4, 2) := by decide +kernel
theorem dL_isFound_3 : decode cL_isFound 3 = .ok (.iconst (-1), 1) := by decide +kernel
theorem dL_isFound_4 : decode cL_isFound 4 = .ok (.istore 5, 2) := by decide +kernel
theorem dL_isFound_6 : decode cL_isFound 6 = .ok (.iconst 0, 1) := by decide +kernel
theorem dL_isFound_7 : decode cL_isFound 7 = .ok (.istore 6, 2) := by decide +kernel
theorem dL_isFound_9 : decode cL_isFound 9 = .ok (.iload 6, 2) := by decide +kernel
theorem dL_isFound_11 : decode cL_isFound 11 = .ok (.aload_n 0, 1) := by decide +kernel
theorem dL_isFound_12 : decode cL_isFound 12 = .ok (.invokevirtual 31, 3) := by decide +kernel
theorem dL_isFound_15 : decode cL_isFound 15 = .ok (.if_icmp .ge 111, 3) := by decide +kernel
theorem dL_isFound_18 : decode cL_isFound 18 = .ok (.aload_n 0, 1) := by decide +kernel
theorem dL_isFound_19 : decode cL_isFound 19 = .ok (.lload_n 1, 1) := by decide +kernel
theorem dL_isFound_20 : decode cL_isFound 20 = .ok (.aload_n 0, 1) := by decide +kernel
theorem dL_isFound_21 : decode cL_isFound 21 = .ok (.iload 6, 2) := by decide +kernel
theorem dL_isFound_23 : decode cL_isFound 23 = .ok (.invokevirtual 41, 3) := by decide +kernel
theorem dL_isFound_26 : decode cL_isFound 26 = .ok (.invokevirtual 57, 3) := by decide +kernel
theorem dL_isFound_29 : decode cL_isFound 29 = .ok (.istore 7, 2) := by decide +kernel
theorem dL_isFound_31 : decode cL_isFound 31 = .ok (.iload 4, 2) := by decide +kernel
theorem dL_isFound_33 : decode cL_isFound 33 = .ok (.iload 7, 2) := by decide +kernel
theorem dL_isFound_35 : decode cL_isFound 35 = .ok (.iload_n 3, 1) := by decide +kernel
theorem dL_isFound_36 : decode cL_isFound 36 = .ok (.if_icmp .gt 7, 3) := by decide +kernel
theorem dL_isFound_39 : decode cL_isFound 39 = .ok (.iconst 1, 1) := by decide +kernel
theorem dL_isFound_40 : decode cL_isFound 40 = .ok (.goto 4, 3) := by decide +kernel
theorem dL_isFound_43 : decode cL_isFound 43 = .ok (.iconst 0, 1) := by decide +kernel
theorem dL_isFound_44 : decode cL_isFound 44 = .ok (.iadd, 1) := by decide +kernel
theorem dL_isFound_45 : decode cL_isFound 45 = .ok (.istore 4, 2) := by decide +kernel
theorem dL_isFound_47 : decode cL_isFound 47 = .ok (.iload 5, 2) := by decide +kernel
theorem dL_isFound_49 : decode cL_isFound 49 = .ok (.ifCond .lt 10, 3) := by decide +kernel
theorem dL_isFound_52 : decode cL_isFound 52 = .ok (.iload 7, 2) := by decide +kernel
theorem dL_isFound_54 : decode cL_isFound 54 = .ok (.iload 5, 2) := by decide +kernel
theorem dL_isFound_56 : decode cL_isFound 56 = .ok (.if_icmp .ge 8, 3) := by decide +kernel
theorem dL_isFound_59 : decode cL_isFound 59 = .ok (.iload 7, 2) := by decide +kernel
theorem dL_isFound_61 : decode cL_isFound 61 = .ok (.goto 5, 3) := by decide +kernel
theorem dL_isFound_64 : decode cL_isFound 64 = .ok (.iload 5, 2) := by decide +kernel
theorem dL_isFound_66 : decode cL_isFound 66 = .ok (.istore 5, 2) := by decide +kernel
theorem dL_isFound_68 : decode cL_isFound 68 = .ok (.aload_n 0, 1) := by decide +kernel
theorem dL_isFound_69 : decode cL_isFound 69 = .ok (.lload_n 1, 1) := by decide +kernel
theorem dL_isFound_70 : decode cL_isFound 70 = .ok (.aload_n 0, 1) := by decide +kernel
theorem dL_isFound_71 : decode cL_isFound 71 = .ok (.iload 6, 2) := by decide +kernel
theorem dL_isFound_73 : decode cL_isFound 73 = .ok (.invokevirtual 41, 3) := by decide +kernel
theorem dL_isFound_76 : decode cL_isFound 76 = .ok (.invokevirtual 61, 3) := by decide +kernel
theorem dL_isFound_79 : decode cL_isFound 79 = .ok (.iconst 3, 1) := by decide +kernel
theorem dL_isFound_80 : decode cL_isFound 80 = .ok (.iload 7, 2) := by decide +kernel
theorem dL_isFound_82 : decode cL_isFound 82 = .ok (.imul, 1) := by decide +kernel
theorem dL_isFound_83 : decode cL_isFound 83 = .ok (.if_icmp .gt 35, 3) := by decide +kernel
theorem dL_isFound_86 : decode cL_isFound 86 = .ok (.aload_n 0, 1) := by decide +kernel
theorem dL_isFound_87 : decode cL_isFound 87 = .ok (.lload_n 1, 1) := by decide +kernel
theorem dL_isFound_88 : decode cL_isFound 88 = .ok (.aload_n 0, 1) := by decide +kernel
theorem dL_isFound_89 : decode cL_isFound 89 = .ok (.iload 6, 2) := by decide +kernel
theorem dL_isFound_91 : decode cL_isFound 91 = .ok (.invokevirtual 41, 3) := by decide +kernel
theorem dL_isFound_94 : decode cL_isFound 94 = .ok (.invokevirtual 61, 3) := by decide +kernel
theorem dL_isFound_97 : decode cL_isFound 97 = .ok (.ifCond .ne 7, 3) := by decide +kernel
theorem dL_isFound_100 : decode cL_isFound 100 = .ok (.iconst 1, 1) := by decide +kernel
theorem dL_isFound_101 : decode cL_isFound 101 = .ok (.goto 4, 3) := by decide +kernel
theorem dL_isFound_104 : decode cL_isFound 104 = .ok (.iconst 0, 1) := by decide +kernel
theorem dL_isFound_105 : decode cL_isFound 105 = .ok (.iload 7, 2) := by decide +kernel
theorem dL_isFound_107 : decode cL_isFound 107 = .ok (.ifCond .ne 7, 3) := by decide +kernel
theorem dL_isFound_110 : decode cL_isFound 110 = .ok (.iconst 1, 1) := by decide +kernel
theorem dL_isFound_111 : decode cL_isFound 111 = .ok (.goto 4, 3) := by decide +kernel
theorem dL_isFound_114 : decode cL_isFound 114 = .ok (.iconst 0, 1) := by decide +kernel
theorem dL_isFound_115 : decode cL_isFound 115 = .ok (.if_icmp .eq 5, 3) := by decide +kernel
theorem dL_isFound_118 : decode cL_isFound 118 = .ok (.iconst 0, 1) := by decide +kernel
theorem dL_isFound_119 : decode cL_isFound 119 = .ok (.ireturn, 1) := by decide +kernel
theorem dL_isFound_120 : decode cL_isFound 120 = .ok (.iinc 6 1, 3) := by decide +kernel
theorem dL_isFound_123 : decode cL_isFound 123 = .ok (.goto (-114), 3) := by decide +kernel
theorem dL_isFound_126 : decode cL_isFound 126 = .ok (.aload_n 0, 1) := by decide +kernel
theorem dL_isFound_127 : decode cL_isFound 127 = .ok (.lload_n 1, 1) := by decide +kernel
theorem dL_isFound_128 : decode cL_isFound 128 = .ok (.iload_n 3, 1) := by decide +kernel
theorem dL_isFound_129 : decode cL_isFound 129 = .ok (.invokevirtual 64, 3) := by decide +kernel
theorem dL_isFound_132 : decode cL_isFound 132 = .ok (.iload 4, 2) := by decide +kernel
theorem dL_isFound_134 : decode cL_isFound 134 = .ok (.if_icmp .ne 42, 3) := by decide +kernel
theorem dL_isFound_137 : decode cL_isFound 137 = .ok (.aload_n 0, 1) := by decide +kernel
theorem dL_isFound_138 : decode cL_isFound 138 = .ok (.lload_n 1, 1) := by decide +kernel
theorem dL_isFound_139 : decode cL_isFound 139 = .ok (.invokevirtual 67, 3) := by decide +kernel
theorem dL_isFound_142 : decode cL_isFound 142 = .ok (.iload 5, 2) := by decide +kernel
theorem dL_isFound_144 : decode cL_isFound 144 = .ok (.if_icmp .ne 32, 3) := by decide +kernel
theorem dL_isFound_147 : decode cL_isFound 147 = .ok (.iload 4, 2) := by decide +kernel
theorem dL_isFound_149 : decode cL_isFound 149 = .ok (.ifCond .le 7, 3) := by decide +kernel
theorem dL_isFound_152 : decode cL_isFound 152 = .ok (.iconst 1, 1) := by decide +kernel
theorem dL_isFound_153 : decode cL_isFound 153 = .ok (.goto 4, 3) := by decide +kernel
theorem dL_isFound_156 : decode cL_isFound 156 = .ok (.iconst 0, 1) := by decide +kernel
theorem dL_isFound_157 : decode cL_isFound 157 = .ok (.iload 5, 2) := by decide +kernel
theorem dL_isFound_159 : decode cL_isFound 159 = .ok (.ifCond .lt 13, 3) := by decide +kernel
theorem dL_isFound_162 : decode cL_isFound 162 = .ok (.iload 5, 2) := by decide +kernel
theorem dL_isFound_164 : decode cL_isFound 164 = .ok (.iload_n 3, 1) := by decide +kernel
theorem dL_isFound_165 : decode cL_isFound 165 = .ok (.if_icmp .gt 7, 3) := by decide +kernel
theorem dL_isFound_168 : decode cL_isFound 168 = .ok (.iconst 1, 1) := by decide +kernel
theorem dL_isFound_169 : decode cL_isFound 169 = .ok (.goto 4, 3) := by decide +kernel
theorem dL_isFound_172 : decode cL_isFound 172 = .ok (.iconst 0, 1) := by decide +kernel
theorem dL_isFound_173 : decode cL_isFound 173 = .ok (.if_icmp .eq 5, 3) := by decide +kernel
theorem dL_isFound_176 : decode cL_isFound 176 = .ok (.iconst 0, 1) := by decide +kernel
theorem dL_isFound_177 : decode cL_isFound 177 = .ok (.ireturn, 1) := by decide +kernel
theorem dL_isFound_178 : decode cL_isFound 178 = .ok (.iconst 0, 1) := by decide +kernel
theorem dL_isFound_179 : decode cL_isFound 179 = .ok (.istore 6, 2) := by decide +kernel
theorem dL_isFound_181 : decode cL_isFound 181 = .ok (.iload 6, 2) := by decide +kernel
theorem dL_isFound_183 : decode cL_isFound 183 = .ok (.iload 4, 2) := by decide +kernel
theorem dL_isFound_185 : decode cL_isFound 185 = .ok (.if_icmp .ge 119, 3) := by decide +kernel
theorem dL_isFound_188 : decode cL_isFound 188 = .ok (.aload_n 0, 1) := by decide +kernel
theorem dL_isFound_189 : decode cL_isFound 189 = .ok (.lload_n 1, 1) := by decide +kernel
theorem dL_isFound_190 : decode cL_isFound 190 = .ok (.iload_n 3, 1) := by decide +kernel
theorem dL_isFound_191 : decode cL_isFound 191 = .ok (.iload 6, 2) := by decide +kernel
theorem dL_isFound_193 : decode cL_isFound 193 = .ok (.invokevirtual 70, 3) := by decide +kernel
theorem dL_isFound_196 : decode cL_isFound 196 = .ok (.lstore 7, 2) := by decide +kernel
theorem dL_isFound_198 : decode cL_isFound 198 = .ok (.iload 6, 2) := by decide +kernel
theorem dL_isFound_200 : decode cL_isFound 200 = .ok (.ifCond .ne 8, 3) := by decide +kernel
theorem dL_isFound_203 : decode cL_isFound 203 = .ok (.lload 7, 2) := by decide +kernel
theorem dL_isFound_205 : decode cL_isFound 205 = .ok (.goto 13, 3) := by decide +kernel
theorem dL_isFound_208 : decode cL_isFound 208 = .ok (.aload_n 0, 1) := by decide +kernel
theorem dL_isFound_209 : decode cL_isFound 209 = .ok (.lload_n 1, 1) := by decide +kernel
theorem dL_isFound_210 : decode cL_isFound 210 = .ok (.iload_n 3, 1) := by decide +kernel
theorem dL_isFound_211 : decode cL_isFound 211 = .ok (.iload 6, 2) := by decide +kernel
theorem dL_isFound_213 : decode cL_isFound 213 = .ok (.iconst 1, 1) := by decide +kernel
theorem dL_isFound_214 : decode cL_isFound 214 = .ok (.isub, 1) := by decide +kernel
theorem dL_isFound_215 : decode cL_isFound 215 = .ok (.invokevirtual 70, 3) := by decide +kernel
theorem dL_isFound_218 : decode cL_isFound 218 = .ok (.lstore 9, 2) := by decide +kernel
theorem dL_isFound_220 : decode cL_isFound 220 = .ok (.aload_n 0, 1) := by decide +kernel
theorem dL_isFound_221 : decode cL_isFound 221 = .ok (.lload_n 1, 1) := by decide +kernel
theorem dL_isFound_222 : decode cL_isFound 222 = .ok (.lload 7, 2) := by decide +kernel
theorem dL_isFound_224 : decode cL_isFound 224 = .ok (.invokevirtual 61, 3) := by decide +kernel
theorem dL_isFound_227 : decode cL_isFound 227 = .ok (.aload_n 0, 1) := by decide +kernel
theorem dL_isFound_228 : decode cL_isFound 228 = .ok (.lload_n 1, 1) := by decide +kernel
theorem dL_isFound_229 : decode cL_isFound 229 = .ok (.lload 9, 2) := by decide +kernel
theorem dL_isFound_231 : decode cL_isFound 231 = .ok (.invokevirtual 61, 3) := by decide +kernel
theorem dL_isFound_234 : decode cL_isFound 234 = .ok (.isub, 1) := by decide +kernel
theorem dL_isFound_235 : decode cL_isFound 235 = .ok (.istore 11, 2) := by decide +kernel
theorem dL_isFound_237 : decode cL_isFound 237 = .ok (.aload_n 0, 1) := by decide +kernel
theorem dL_isFound_238 : decode cL_isFound 238 = .ok (.lload 7, 2) := by decide +kernel
theorem dL_isFound_240 : decode cL_isFound 240 = .ok (.invokevirtual 45, 3) := by decide +kernel
theorem dL_isFound_243 : decode cL_isFound 243 = .ok (.iconst 1, 1) := by decide +kernel
theorem dL_isFound_244 : decode cL_isFound 244 = .ok (.if_icmp .lt 52, 3) := by decide +kernel
theorem dL_isFound_247 : decode cL_isFound 247 = .ok (.aload_n 0, 1) := by decide +kernel
theorem dL_isFound_248 : decode cL_isFound 248 = .ok (.lload_n 1, 1) := by decide +kernel
theorem dL_isFound_249 : decode cL_isFound 249 = .ok (.lload 7, 2) := by decide +kernel
theorem dL_isFound_251 : decode cL_isFound 251 = .ok (.invokevirtual 57, 3) := by decide +kernel
theorem dL_isFound_254 : decode cL_isFound 254 = .ok (.iload_n 3, 1) := by decide +kernel
theorem dL_isFound_255 : decode cL_isFound 255 = .ok (.if_icmp .gt 41, 3) := by decide +kernel
theorem dL_isFound_258 : decode cL_isFound 258 = .ok (.iload 11, 2) := by decide +kernel
theorem dL_isFound_260 : decode cL_isFound 260 = .ok (.ifCond .lt 36, 3) := by decide +kernel
theorem dL_isFound_263 : decode cL_isFound 263 = .ok (.iload 11, 2) := by decide +kernel
theorem dL_isFound_265 : decode cL_isFound 265 = .ok (.ifCond .ne 18, 3) := by decide +kernel
theorem dL_isFound_268 : decode cL_isFound 268 = .ok (.aload_n 0, 1) := by decide +kernel
theorem dL_isFound_269 : decode cL_isFound 269 = .ok (.lload 7, 2) := by decide +kernel
theorem dL_isFound_271 : decode cL_isFound 271 = .ok (.invokevirtual 45, 3) := by decide +kernel
theorem dL_isFound_274 : decode cL_isFound 274 = .ok (.aload_n 0, 1) := by decide +kernel
theorem dL_isFound_275 : decode cL_isFound 275 = .ok (.lload 9, 2) := by decide +kernel
theorem dL_isFound_277 : decode cL_isFound 277 = .ok (.invokevirtual 45, 3) := by decide +kernel
theorem dL_isFound_280 : decode cL_isFound 280 = .ok (.if_icmp .gt 16, 3) := by decide +kernel
theorem dL_isFound_283 : decode cL_isFound 283 = .ok (.iload 6, 2) := by decide +kernel
theorem dL_isFound_285 : decode cL_isFound 285 = .ok (.ifCond .le 13, 3) := by decide +kernel
theorem dL_isFound_288 : decode cL_isFound 288 = .ok (.lload 7, 2) := by decide +kernel
theorem dL_isFound_290 : decode cL_isFound 290 = .ok (.lload 9, 2) := by decide +kernel
theorem dL_isFound_292 : decode cL_isFound 292 = .ok (.lcmp, 1) := by decide +kernel
theorem dL_isFound_293 : decode cL_isFound 293 = .ok (.ifCond .ne 5, 3) := by decide +kernel
theorem dL_isFound_296 : decode cL_isFound 296 = .ok (.iconst 0, 1) := by decide +kernel
theorem dL_isFound_297 : decode cL_isFound 297 = .ok (.ireturn, 1) := by decide +kernel
theorem dL_isFound_298 : decode cL_isFound 298 = .ok (.iinc 6 1, 3) := by decide +kernel
theorem dL_isFound_301 : decode cL_isFound 301 = .ok (.goto (-120), 3) := by decide +kernel
theorem dL_isFound_304 : decode cL_isFound 304 = .ok (.aload_n 0, 1) := by decide +kernel
theorem dL_isFound_305 : decode cL_isFound 305 = .ok (.lload_n 1, 1) := by decide +kernel
theorem dL_isFound_306 : decode cL_isFound 306 = .ok (.iload_n 3, 1) := by decide +kernel
theorem dL_isFound_307 : decode cL_isFound 307 = .ok (.invokevirtual 74, 3) := by decide +kernel
theorem dL_isFound_310 : decode cL_isFound 310 = .ok (.iload 4, 2) := by decide +kernel
theorem dL_isFound_312 : decode cL_isFound 312 = .ok (.if_icmp .lt 48, 3) := by decide +kernel
theorem dL_isFound_315 : decode cL_isFound 315 = .ok (.aload_n 0, 1) := by decide +kernel
theorem dL_isFound_316 : decode cL_isFound 316 = .ok (.lload_n 1, 1) := by decide +kernel
theorem dL_isFound_317 : decode cL_isFound 317 = .ok (.iload_n 3, 1) := by decide +kernel
theorem dL_isFound_318 : decode cL_isFound 318 = .ok (.invokevirtual 74, 3) := by decide +kernel
theorem dL_isFound_321 : decode cL_isFound 321 = .ok (.aload_n 0, 1) := by decide +kernel
theorem dL_isFound_322 : decode cL_isFound 322 = .ok (.invokevirtual 38, 3) := by decide +kernel
theorem dL_isFound_325 : decode cL_isFound 325 = .ok (.if_icmp .gt 35, 3) := by decide +kernel
theorem dL_isFound_328 : decode cL_isFound 328 = .ok (.aload_n 0, 1) := by decide +kernel
theorem dL_isFound_329 : decode cL_isFound 329 = .ok (.lload_n 1, 1) := by decide +kernel
theorem dL_isFound_330 : decode cL_isFound 330 = .ok (.iload_n 3, 1) := by decide +kernel
theorem dL_isFound_331 : decode cL_isFound 331 = .ok (.invokevirtual 77, 3) := by decide +kernel
theorem dL_isFound_334 : decode cL_isFound 334 = .ok (.aload_n 0, 1) := by decide +kernel
theorem dL_isFound_335 : decode cL_isFound 335 = .ok (.lload_n 1, 1) := by decide +kernel
theorem dL_isFound_336 : decode cL_isFound 336 = .ok (.iload_n 3, 1) := by decide +kernel
theorem dL_isFound_337 : decode cL_isFound 337 = .ok (.invokevirtual 80, 3) := by decide +kernel
theorem dL_isFound_340 : decode cL_isFound 340 = .ok (.if_icmp .gt 20, 3) := by decide +kernel
theorem dL_isFound_343 : decode cL_isFound 343 = .ok (.aload_n 0, 1) := by decide +kernel
theorem dL_isFound_344 : decode cL_isFound 344 = .ok (.lload_n 1, 1) := by decide +kernel
theorem dL_isFound_345 : decode cL_isFound 345 = .ok (.iload_n 3, 1) := by decide +kernel
theorem dL_isFound_346 : decode cL_isFound 346 = .ok (.invokevirtual 80, 3) := by decide +kernel
theorem dL_isFound_349 : decode cL_isFound 349 = .ok (.aload_n 0, 1) := by decide +kernel
theorem dL_isFound_350 : decode cL_isFound 350 = .ok (.invokevirtual 35, 3) := by decide +kernel
theorem dL_isFound_353 : decode cL_isFound 353 = .ok (.if_icmp .gt 7, 3) := by decide +kernel
theorem dL_isFound_356 : decode cL_isFound 356 = .ok (.iconst 1, 1) := by decide +kernel
theorem dL_isFound_357 : decode cL_isFound 357 = .ok (.goto 4, 3) := by decide +kernel
theorem dL_isFound_360 : decode cL_isFound 360 = .ok (.iconst 0, 1) := by decide +kernel
theorem dL_isFound_361 : decode cL_isFound 361 = .ok (.istore 6, 2) := by decide +kernel
theorem dL_isFound_363 : decode cL_isFound 363 = .ok (.iload 6, 2) := by decide +kernel
theorem dL_isFound_365 : decode cL_isFound 365 = .ok (.ifCond .eq 53, 3) := by decide +kernel
theorem dL_isFound_368 : decode cL_isFound 368 = .ok (.iload_n 3, 1) := by decide +kernel
theorem dL_isFound_369 : decode cL_isFound 369 = .ok (.iconst 2, 1) := by decide +kernel
theorem dL_isFound_370 : decode cL_isFound 370 = .ok (.if_icmp .gt 44, 3) := by decide +kernel
theorem dL_isFound_373 : decode cL_isFound 373 = .ok (.aload_n 0, 1) := by decide +kernel
theorem dL_isFound_374 : decode cL_isFound 374 = .ok (.lload_n 1, 1) := by decide +kernel
theorem dL_isFound_375 : decode cL_isFound 375 = .ok (.iload_n 3, 1) := by decide +kernel
theorem dL_isFound_376 : decode cL_isFound 376 = .ok (.invokevirtual 83, 3) := by decide +kernel
theorem dL_isFound_379 : decode cL_isFound 379 = .ok (.aload_n 0, 1) := by decide +kernel
theorem dL_isFound_380 : decode cL_isFound 380 = .ok (.lload_n 1, 1) := by decide +kernel
theorem dL_isFound_381 : decode cL_isFound 381 = .ok (.iload_n 3, 1) := by decide +kernel
theorem dL_isFound_382 : decode cL_isFound 382 = .ok (.invokevirtual 86, 3) := by decide +kernel
theorem dL_isFound_385 : decode cL_isFound 385 = .ok (.isub, 1) := by decide +kernel
theorem dL_isFound_386 : decode cL_isFound 386 = .ok (.iload 4, 2) := by decide +kernel
theorem dL_isFound_388 : decode cL_isFound 388 = .ok (.if_icmp .ne 30, 3) := by decide +kernel
theorem dL_isFound_391 : decode cL_isFound 391 = .ok (.aload_n 0, 1) := by decide +kernel
theorem dL_isFound_392 : decode cL_isFound 392 = .ok (.lload_n 1, 1) := by decide +kernel
theorem dL_isFound_393 : decode cL_isFound 393 = .ok (.iload_n 3, 1) := by decide +kernel
theorem dL_isFound_394 : decode cL_isFound 394 = .ok (.invokevirtual 83, 3) := by decide +kernel
theorem dL_isFound_397 : decode cL_isFound 397 = .ok (.aload_n 0, 1) := by decide +kernel
theorem dL_isFound_398 : decode cL_isFound 398 = .ok (.invokevirtual 31, 3) := by decide +kernel
theorem dL_isFound_401 : decode cL_isFound 401 = .ok (.if_icmp .gt 17, 3) := by decide +kernel
theorem dL_isFound_404 : decode cL_isFound 404 = .ok (.aload_n 0, 1) := by decide +kernel
theorem dL_isFound_405 : decode cL_isFound 405 = .ok (.lload_n 1, 1) := by decide +kernel
theorem dL_isFound_406 : decode cL_isFound 406 = .ok (.iload_n 3, 1) := by decide +kernel
theorem dL_isFound_407 : decode cL_isFound 407 = .ok (.invokevirtual 89, 3) := by decide +kernel
theorem dL_isFound_410 : decode cL_isFound 410 = .ok (.iconst 1, 1) := by decide +kernel
theorem dL_isFound_411 : decode cL_isFound 411 = .ok (.if_icmp .lt 7, 3) := by decide +kernel
theorem dL_isFound_414 : decode cL_isFound 414 = .ok (.iconst 1, 1) := by decide +kernel
theorem dL_isFound_415 : decode cL_isFound 415 = .ok (.goto 4, 3) := by decide +kernel
theorem dL_isFound_418 : decode cL_isFound 418 = .ok (.iconst 0, 1) := by decide +kernel
theorem dL_isFound_419 : decode cL_isFound 419 = .ok (.ireturn, 1) := by decide +kernel
set_option maxRecDepth 20000 in
theorem ggL_law_X9_init : GoodIn wsL_law wsX9_init := goodIn_r _ [6, 7, 8, 9, 10, 11, 12, 13, 14, 15, 16, 17, 18, 19, 20, 21, 22, 23, 24, 25, 26, 27, 28, 29, 30, 31, 32, 33, 34, 35, 36, 37, 38, 39, 40, 41, 42, 43, 44, 45, 46, 47, 48, 49, 50, 51, 52, 53, 54, 55, 56, 57, 58, 59, 60, 61, 62, 63, 64, 454, 448, 449, 450, 451, 452, 453, 455, 456, 457, 458, 459, 460, 461] (by decide +kernel) (by decide +kernel)
set_option maxRecDepth 20000 in
theorem gL_law_X9_init : GoodIn wsL_law (wsX9_init) := ggL_law_X9_init
set_option maxRecDepth 20000 in
theorem ggL_law_L_cell : GoodIn wsL_law wsL_cell := goodIn_r _ [68] (by decide +kernel) (by decide +kernel)
set_option maxRecDepth 20000 in
theorem gL_law_L_cell : GoodIn wsL_law (va_wsS RL 93 yL_cell wsL_cell) := goodIn_app (goodIn_of _ (by decide +kernel)) ggL_law_L_cell
set_option maxRecDepth 20000 in
theorem ggL_law_L_low : GoodIn wsL_law wsL_low := goodIn_r _ [71, 72] (by decide +kernel) (by decide +kernel)
set_option maxRecDepth 20000 in
theorem gL_law_L_low : GoodIn wsL_law (va_wsS RL 23 yL_low wsL_low) := goodIn_app (goodIn_of _ (by decide +kernel)) ggL_law_L_low
set_option maxRecDepth 20000 in
theorem ggL_law_L_word : GoodIn wsL_law wsL_word := goodIn_r _ [75, 76, 69, 70, 67, 71, 72] (by decide +kernel) (by decide +kernel)
set_option maxRecDepth 20000 in
theorem gL_law_L_word : GoodIn wsL_law (va_wsS RL 97 yL_word wsL_word) := goodIn_app (goodIn_of _ (by decide +kernel)) ggL_law_L_word
set_option maxRecDepth 20000 in
theorem ggL_law_X9_words : GoodIn wsL_law wsX9_words := goodIn_r _ [80, 25, 81, 82, 83, 24, 84, 85, 448, 449, 450, 451, 452, 453, 457, 458] (by decide +kernel) (by decide +kernel)
set_option maxRecDepth 20000 in
theorem gL_law_X9_words : GoodIn wsL_law (wsV RL 31 RX9 yX9_words wsX9_words) := goodIn_app (goodIn_of _ (by decide +kernel)) ggL_law_X9_words
set_option maxRecDepth 20000 in
theorem ggL_law_X9_wordAt : GoodIn wsL_law wsX9_wordAt := goodIn_ca (goodIn_r _ [89, 25, 90, 91, 2, 92, 93, 94, 95, 96, 97, 24, 98, 85, 52, 448, 449, 450, 451, 452, 453, 462, 463, 464, 465, 466, 467, 468, 469, 470, 471, 472, 457, 458] (by decide +kernel) (by decide +kernel)) (goodIn_sub (fun _ h => List.mem_append_left _ (List.mem_append_left _ (List.mem_append_right _ h))) (by decide +kernel))
set_option maxRecDepth 20000 in
theorem gL_law_X9_wordAt : GoodIn wsL_law (wsV RL 41 RX9 yX9_wordAt wsX9_wordAt) := goodIn_app (goodIn_of _ (by decide +kernel)) ggL_law_X9_wordAt
set_option maxRecDepth 20000 in
theorem ggL_law_L_forget : GoodIn wsL_law wsL_forget := goodIn_ca (goodIn_ca (goodIn_r _ [101, 102, 103, 3, 104, 105, 106, 2, 107, 108, 109, 17, 25, 110, 111, 112, 113, 114, 115, 116, 117, 118, 119, 120, 121, 122, 123, 124, 125, 126, 8, 9, 127, 128, 129, 130, 131, 132, 133, 134, 135, 16, 136, 47, 137, 82, 83, 24, 84, 85, 138, 96, 97, 98, 52, 139, 140, 141, 142, 448, 449, 450, 451, 452, 453, 462, 463, 464, 465, 466, 467, 468, 469, 470, 471, 472, 455, 457, 458] (by decide +kernel) (by decide +kernel)) (goodIn_sub (fun _ h => List.mem_append_left _ (List.mem_append_right _ h)) (by decide +kernel))) (goodIn_sub (fun _ h => List.mem_append_right _ h) (by decide +kernel))
set_option maxRecDepth 20000 in
theorem gL_law_L_forget : GoodIn wsL_law (va_wsS RL 101 yL_forget wsL_forget) := goodIn_app (goodIn_of _ (by decide +kernel)) ggL_law_L_forget
set_option maxRecDepth 20000 in
theorem ggL_law_L_add : GoodIn wsL_law wsL_add := goodIn_ca (goodIn_ca (goodIn_r _ [145, 102, 103, 3, 146, 147, 148, 2, 149, 108, 109, 17, 150, 13, 25, 110, 111, 112, 113, 114, 115, 116, 117, 118, 119, 120, 121, 122, 123, 124, 125, 126, 8, 9, 127, 128, 129, 130, 131, 132, 151, 152, 153, 133, 134, 135, 16, 136, 47, 137, 82, 83, 24, 84, 85, 138, 96, 97, 98, 52, 154, 155, 156, 157, 158, 159, 160, 161, 162, 163, 164, 165, 166, 167, 12, 168, 37, 169, 170, 171, 172, 173, 174, 175, 36, 176, 42, 177, 178, 179, 180, 181, 182, 183, 184, 185, 186, 187, 188, 189, 190, 191, 192, 193, 194, 195, 196, 197, 198, 199, 200, 201, 202, 203, 204, 205, 206, 207, 208, 209, 210, 211, 212, 213, 214, 215, 216, 217, 218, 219, 220, 221, 222, 223, 224, 448, 449, 450, 451, 452, 453, 462, 463, 464, 465, 466, 467, 468, 469, 470, 471, 472, 455, 457, 458, 454, 461] (by decide +kernel) (by decide +kernel)) (goodIn_sub (fun _ h => List.mem_append_left _ (List.mem_append_right _ h)) (by decide +kernel))) (goodIn_sub (fun _ h => List.mem_append_right _ h) (by decide +kernel))
set_option maxRecDepth 20000 in
theorem gL_law_L_add : GoodIn wsL_law (va_wsS RL 104 yL_add wsL_add) := goodIn_app (goodIn_of _ (by decide +kernel)) ggL_law_L_add
set_option maxRecDepth 20000 in
theorem ggL_law_L_areAlike : GoodIn wsL_law wsL_areAlike := goodIn_ca (goodIn_ca (goodIn_r _ [227, 77, 78, 79, 2, 80, 25, 81, 82, 83, 24, 84, 85, 228, 229, 230, 231, 232, 233, 20, 234, 235, 236, 96, 97, 98, 52, 237, 238, 239, 240, 241, 242, 117, 243, 128, 244, 181, 182, 183, 127, 121, 245, 246, 247, 248, 17, 249, 250, 251, 16, 252, 47, 137, 86, 87, 88, 89, 90, 91, 92, 93, 94, 95, 253, 254, 255, 256, 110, 111, 112, 113, 114, 115, 116, 118, 119, 120, 122, 123, 124, 125, 126, 8, 9, 129, 130, 131, 132, 133, 134, 135, 136, 138, 257, 258, 259, 260, 261, 262, 263, 264, 265, 448, 449, 450, 451, 452, 453, 457, 458, 462, 463, 464, 465, 466, 467, 468, 469, 470, 471, 472, 455] (by decide +kernel) (by decide +kernel)) (goodIn_sub (fun _ h => List.mem_append_left _ (List.mem_append_left _ (List.mem_append_right _ h))) (by decide +kernel))) (goodIn_sub (fun _ h => List.mem_append_right _ h) (by decide +kernel))
set_option maxRecDepth 20000 in
theorem gL_law_L_areAlike : GoodIn wsL_law (va_wsS RL 107 yL_areAlike wsL_areAlike) := goodIn_app (goodIn_of _ (by decide +kernel)) ggL_law_L_areAlike
set_option maxRecDepth 20000 in
theorem ggL_law_L_areWordsSo : GoodIn wsL_law wsL_areWordsSo := goodIn_ca (goodIn_ca (goodIn_r _ [268, 269, 76, 77, 78, 79, 2, 80, 25, 81, 82, 83, 24, 84, 85, 86, 87, 88, 89, 90, 91, 92, 93, 94, 95, 96, 97, 98, 52, 261, 262, 263, 264, 17, 265, 110, 111, 112, 113, 114, 115, 116, 117, 118, 119, 120, 121, 122, 123, 124, 125, 126, 8, 9, 127, 128, 129, 130, 131, 132, 133, 134, 135, 16, 136, 47, 137, 138, 253, 254, 255, 256, 257, 258, 259, 260, 270, 271, 272, 273, 13, 274, 166, 167, 12, 168, 37, 169, 170, 171, 172, 173, 174, 175, 36, 176, 42, 177, 178, 179, 180, 181, 182, 183, 184, 185, 186, 187, 188, 189, 190, 191, 192, 193, 194, 195, 228, 229, 230, 231, 232, 233, 20, 234, 235, 236, 237, 238, 239, 240, 241, 242, 243, 244, 245, 246, 247, 248, 249, 250, 251, 252, 448, 449, 450, 451, 452, 453, 457, 458, 462, 463, 464, 465, 466, 467, 468, 469, 470, 471, 472, 455, 454, 461] (by decide +kernel) (by decide +kernel)) (goodIn_sub (fun _ h => List.mem_append_left _ (List.mem_append_left _ (List.mem_append_right _ h))) (by decide +kernel))) (goodIn_sub (fun _ h => List.mem_append_right _ h) (by decide +kernel))
set_option maxRecDepth 20000 in
theorem gL_law_L_areWordsSo : GoodIn wsL_law (va_wsS RL 111 yL_areWordsSo wsL_areWordsSo) := goodIn_app (goodIn_of _ (by decide +kernel)) ggL_law_L_areWordsSo
theorem dL_law_0 : decode cL_law 0 = .ok (.new 9, 3) := by decide +kernel
theorem dL_law_3 : decode cL_law 3 = .ok (.dup, 1) := by decide +kernel
theorem dL_law_4 : decode cL_law 4 = .ok (.invokespecial 92, 3) := by decide +kernel
theorem dL_law_7 : decode cL_law 7 = .ok (.astore_n 1, 1) := by decide +kernel
theorem dL_law_8 : decode cL_law 8 = .ok (.new 9, 3) := by decide +kernel
theorem dL_law_11 : decode cL_law 11 = .ok (.dup, 1) := by decide +kernel
theorem dL_law_12 : decode cL_law 12 = .ok (.invokespecial 92, 3) := by decide +kernel
theorem dL_law_15 : decode cL_law 15 = .ok (.astore_n 2, 1) := by decide +kernel
theorem dL_law_16 : decode cL_law 16 = .ok (.iconst 0, 1) := by decide +kernel
theorem dL_law_17 : decode cL_law 17 = .ok (.istore_n 3, 1) := by decide +kernel
theorem dL_law_18 : decode cL_law 18 = .ok (.iload_n 3, 1) := by decide +kernel
theorem dL_law_19 : decode cL_law 19 = .ok (.bipush 50, 2) := by decide +kernel
theorem dL_law_21 : decode cL_law 21 = .ok (.if_icmp .ge 239, 3) := by decide +kernel
theorem dL_law_24 : decode cL_law 24 = .ok (.aload_n 0, 1) := by decide +kernel
theorem dL_law_25 : decode cL_law 25 = .ok (.iload_n 3, 1) := by decide +kernel
theorem dL_law_26 : decode cL_law 26 = .ok (.invokestatic 93, 3) := by decide +kernel
theorem dL_law_29 : decode cL_law 29 = .ok (.istore 4, 2) := by decide +kernel
theorem dL_law_31 : decode cL_law 31 = .ok (.iload 4, 2) := by decide +kernel
theorem dL_law_33 : decode cL_law 33 = .ok (.bipush 25, 2) := by decide +kernel
theorem dL_law_35 : decode cL_law 35 = .ok (.ishr, 1) := by decide +kernel
theorem dL_law_36 : decode cL_law 36 = .ok (.bipush 6, 2) := by decide +kernel
theorem dL_law_38 : decode cL_law 38 = .ok (.invokestatic 23, 3) := by decide +kernel
theorem dL_law_41 : decode cL_law 41 = .ok (.ifCond .ne 7, 3) := by decide +kernel
theorem dL_law_44 : decode cL_law 44 = .ok (.iconst 1, 1) := by decide +kernel
theorem dL_law_45 : decode cL_law 45 = .ok (.goto 4, 3) := by decide +kernel
theorem dL_law_48 : decode cL_law 48 = .ok (.iconst 0, 1) := by decide +kernel
theorem dL_law_49 : decode cL_law 49 = .ok (.istore 5, 2) := by decide +kernel
theorem dL_law_51 : decode cL_law 51 = .ok (.iload 4, 2) := by decide +kernel
theorem dL_law_53 : decode cL_law 53 = .ok (.iload 5, 2) := by decide +kernel
theorem dL_law_55 : decode cL_law 55 = .ok (.invokestatic 97, 3) := by decide +kernel
theorem dL_law_58 : decode cL_law 58 = .ok (.lstore 6, 2) := by decide +kernel
theorem dL_law_60 : decode cL_law 60 = .ok (.iload 4, 2) := by decide +kernel
theorem dL_law_62 : decode cL_law 62 = .ok (.iconst 5, 1) := by decide +kernel
theorem dL_law_63 : decode cL_law 63 = .ok (.invokestatic 23, 3) := by decide +kernel
theorem dL_law_66 : decode cL_law 66 = .ok (.ifCond .ne 7, 3) := by decide +kernel
theorem dL_law_69 : decode cL_law 69 = .ok (.iconst 1, 1) := by decide +kernel
theorem dL_law_70 : decode cL_law 70 = .ok (.goto 4, 3) := by decide +kernel
theorem dL_law_73 : decode cL_law 73 = .ok (.iconst 0, 1) := by decide +kernel
theorem dL_law_74 : decode cL_law 74 = .ok (.istore 8, 2) := by decide +kernel
theorem dL_law_76 : decode cL_law 76 = .ok (.aload_n 1, 1) := by decide +kernel
theorem dL_law_77 : decode cL_law 77 = .ok (.invokevirtual 31, 3) := by decide +kernel
theorem dL_law_80 : decode cL_law 80 = .ok (.ifCond .le 27, 3) := by decide +kernel
theorem dL_law_83 : decode cL_law 83 = .ok (.iload 5, 2) := by decide +kernel
theorem dL_law_85 : decode cL_law 85 = .ok (.ifCond .ne 22, 3) := by decide +kernel
theorem dL_law_88 : decode cL_law 88 = .ok (.aload_n 1, 1) := by decide +kernel
theorem dL_law_89 : decode cL_law 89 = .ok (.iload 4, 2) := by decide +kernel
theorem dL_law_91 : decode cL_law 91 = .ok (.bipush 7, 2) := by decide +kernel
theorem dL_law_93 : decode cL_law 93 = .ok (.ishr, 1) := by decide +kernel
theorem dL_law_94 : decode cL_law 94 = .ok (.aload_n 1, 1) := by decide +kernel
theorem dL_law_95 : decode cL_law 95 = .ok (.invokevirtual 31, 3) := by decide +kernel
theorem dL_law_98 : decode cL_law 98 = .ok (.invokestatic 23, 3) := by decide +kernel
theorem dL_law_101 : decode cL_law 101 = .ok (.invokevirtual 41, 3) := by decide +kernel
theorem dL_law_104 : decode cL_law 104 = .ok (.goto 5, 3) := by decide +kernel
theorem dL_law_107 : decode cL_law 107 = .ok (.lload 6, 2) := by decide +kernel
theorem dL_law_109 : decode cL_law 109 = .ok (.lstore 9, 2) := by decide +kernel
theorem dL_law_111 : decode cL_law 111 = .ok (.iload 5, 2) := by decide +kernel
theorem dL_law_113 : decode cL_law 113 = .ok (.ifCond .eq 20, 3) := by decide +kernel
theorem dL_law_116 : decode cL_law 116 = .ok (.iload 4, 2) := by decide +kernel
theorem dL_law_118 : decode cL_law 118 = .ok (.bipush 9, 2) := by decide +kernel
theorem dL_law_120 : decode cL_law 120 = .ok (.ishr, 1) := by decide +kernel
theorem dL_law_121 : decode cL_law 121 = .ok (.sipush 1100, 3) := by decide +kernel
theorem dL_law_124 : decode cL_law 124 = .ok (.invokestatic 23, 3) := by decide +kernel
theorem dL_law_127 : decode cL_law 127 = .ok (.bipush 20, 2) := by decide +kernel
theorem dL_law_129 : decode cL_law 129 = .ok (.isub, 1) := by decide +kernel
theorem dL_law_130 : decode cL_law 130 = .ok (.goto 14, 3) := by decide +kernel
theorem dL_law_133 : decode cL_law 133 = .ok (.iconst 1, 1) := by decide +kernel
theorem dL_law_134 : decode cL_law 134 = .ok (.iload 4, 2) := by decide +kernel
theorem dL_law_136 : decode cL_law 136 = .ok (.bipush 9, 2) := by decide +kernel
theorem dL_law_138 : decode cL_law 138 = .ok (.ishr, 1) := by decide +kernel
theorem dL_law_139 : decode cL_law 139 = .ok (.iconst 4, 1) := by decide +kernel
theorem dL_law_140 : decode cL_law 140 = .ok (.invokestatic 23, 3) := by decide +kernel
theorem dL_law_143 : decode cL_law 143 = .ok (.iadd, 1) := by decide +kernel
theorem dL_law_144 : decode cL_law 144 = .ok (.istore 11, 2) := by decide +kernel
theorem dL_law_146 : decode cL_law 146 = .ok (.iload 8, 2) := by decide +kernel
theorem dL_law_148 : decode cL_law 148 = .ok (.ifCond .eq 12, 3) := by decide +kernel
theorem dL_law_151 : decode cL_law 151 = .ok (.aload_n 1, 1) := by decide +kernel
theorem dL_law_152 : decode cL_law 152 = .ok (.lload 9, 2) := by decide +kernel
theorem dL_law_154 : decode cL_law 154 = .ok (.invokestatic 101, 3) := by decide +kernel
theorem dL_law_157 : decode cL_law 157 = .ok (.goto 11, 3) := by decide +kernel
theorem dL_law_160 : decode cL_law 160 = .ok (.aload_n 1, 1) := by decide +kernel
theorem dL_law_161 : decode cL_law 161 = .ok (.lload 6, 2) := by decide +kernel
theorem dL_law_163 : decode cL_law 163 = .ok (.iload 11, 2) := by decide +kernel
theorem dL_law_165 : decode cL_law 165 = .ok (.invokestatic 104, 3) := by decide +kernel
theorem dL_law_168 : decode cL_law 168 = .ok (.istore 12, 2) := by decide +kernel
theorem dL_law_170 : decode cL_law 170 = .ok (.iload 12, 2) := by decide +kernel
theorem dL_law_172 : decode cL_law 172 = .ok (.ldc 16, 2) := by decide +kernel
theorem dL_law_174 : decode cL_law 174 = .ok (.if_icmp .eq 30, 3) := by decide +kernel
theorem dL_law_177 : decode cL_law 177 = .ok (.iload 8, 2) := by decide +kernel
theorem dL_law_179 : decode cL_law 179 = .ok (.ifCond .eq 12, 3) := by decide +kernel
theorem dL_law_182 : decode cL_law 182 = .ok (.aload_n 2, 1) := by decide +kernel
theorem dL_law_183 : decode cL_law 183 = .ok (.lload 9, 2) := by decide +kernel
theorem dL_law_185 : decode cL_law 185 = .ok (.invokestatic 101, 3) := by decide +kernel
theorem dL_law_188 : decode cL_law 188 = .ok (.goto 11, 3) := by decide +kernel
theorem dL_law_191 : decode cL_law 191 = .ok (.aload_n 2, 1) := by decide +kernel
theorem dL_law_192 : decode cL_law 192 = .ok (.lload 6, 2) := by decide +kernel
theorem dL_law_194 : decode cL_law 194 = .ok (.iload 11, 2) := by decide +kernel
theorem dL_law_196 : decode cL_law 196 = .ok (.invokestatic 104, 3) := by decide +kernel
theorem dL_law_199 : decode cL_law 199 = .ok (.iload 12, 2) := by decide +kernel
theorem dL_law_201 : decode cL_law 201 = .ok (.if_icmp .ne 11, 3) := by decide +kernel
theorem dL_law_204 : decode cL_law 204 = .ok (.aload_n 1, 1) := by decide +kernel
theorem dL_law_205 : decode cL_law 205 = .ok (.aload_n 2, 1) := by decide +kernel
theorem dL_law_206 : decode cL_law 206 = .ok (.invokestatic 107, 3) := by decide +kernel
theorem dL_law_209 : decode cL_law 209 = .ok (.ifCond .ne 5, 3) := by decide +kernel
theorem dL_law_212 : decode cL_law 212 = .ok (.iconst 0, 1) := by decide +kernel
theorem dL_law_213 : decode cL_law 213 = .ok (.ireturn, 1) := by decide +kernel
theorem dL_law_214 : decode cL_law 214 = .ok (.iload_n 3, 1) := by decide +kernel
theorem dL_law_215 : decode cL_law 215 = .ok (.iconst 5, 1) := by decide +kernel
theorem dL_law_216 : decode cL_law 216 = .ok (.irem, 1) := by decide +kernel
theorem dL_law_217 : decode cL_law 217 = .ok (.iconst 4, 1) := by decide +kernel
theorem dL_law_218 : decode cL_law 218 = .ok (.if_icmp .ne 36, 3) := by decide +kernel
theorem dL_law_221 : decode cL_law 221 = .ok (.aload_n 1, 1) := by decide +kernel
theorem dL_law_222 : decode cL_law 222 = .ok (.invokestatic 111, 3) := by decide +kernel
theorem dL_law_225 : decode cL_law 225 = .ok (.ifCond .eq 27, 3) := by decide +kernel
theorem dL_law_228 : decode cL_law 228 = .ok (.aload_n 1, 1) := by decide +kernel
theorem dL_law_229 : decode cL_law 229 = .ok (.iload 4, 2) := by decide +kernel
theorem dL_law_231 : decode cL_law 231 = .ok (.iconst 2, 1) := by decide +kernel
theorem dL_law_232 : decode cL_law 232 = .ok (.ishr, 1) := by decide +kernel
theorem dL_law_233 : decode cL_law 233 = .ok (.iconst 0, 1) := by decide +kernel
theorem dL_law_234 : decode cL_law 234 = .ok (.invokestatic 97, 3) := by decide +kernel
theorem dL_law_237 : decode cL_law 237 = .ok (.iload 4, 2) := by decide +kernel
theorem dL_law_239 : decode cL_law 239 = .ok (.bipush 11, 2) := by decide +kernel
theorem dL_law_241 : decode cL_law 241 = .ok (.ishr, 1) := by decide +kernel
theorem dL_law_242 : decode cL_law 242 = .ok (.iconst 4, 1) := by decide +kernel
theorem dL_law_243 : decode cL_law 243 = .ok (.invokestatic 23, 3) := by decide +kernel
theorem dL_law_246 : decode cL_law 246 = .ok (.invokestatic 115, 3) := by decide +kernel
theorem dL_law_249 : decode cL_law 249 = .ok (.ifCond .ne 5, 3) := by decide +kernel
theorem dL_law_252 : decode cL_law 252 = .ok (.iconst 0, 1) := by decide +kernel
theorem dL_law_253 : decode cL_law 253 = .ok (.ireturn, 1) := by decide +kernel
theorem dL_law_254 : decode cL_law 254 = .ok (.iinc 3 1, 3) := by decide +kernel
theorem dL_law_257 : decode cL_law 257 = .ok (.goto (-239), 3) := by decide +kernel
theorem dL_law_260 : decode cL_law 260 = .ok (.iconst 1, 1) := by decide +kernel
theorem dL_law_261 : decode cL_law 261 = .ok (.ireturn, 1) := by decide +kernel
